/-! ServiceGame$Machine.<init>()V -/
abbrev rmX1_init : Room := { frames := 1, cells := 2, slots := 16, locals := 12 }
theorem inX1_init_X1 : ∀ w ∈ wsX10, w ∈ wsX1_init := fun _ h => List.mem_cons_of_mem _ (List.mem_append_right _ h)
theorem lkX1_init_0 : Cond.code objectInit ⟨#[0xb1]⟩ 1 none ∈ wsX1_init := by decide +kernel
theorem lkX1_init_1 : Cond.methodLink RX1 3 objectInit ∈ wsX1_init := by decide +kernel
theorem lkX1_init_2 : Cond.instanceMethod objectInit ∈ wsX1_init := by decide +kernel
theorem lkX1_init_3 : Cond.arrayClass .int ∈ wsX1_init := by decide +kernel
theorem lkX1_init_4 : Cond.fieldLink RX1 9 "ServiceGame$Machine" "pile" "[I" ∈ wsX1_init := by decide +kernel
theorem lkX1_init_5 : Cond.fieldLink RX1 15 "ServiceGame$Machine" "cellsAhead" "[I" ∈ wsX1_init := by decide +kernel
def fX1_init (fu : Nat) (σ : hs_T) (o : Nat) : Option (Unit × hs_T) :=
 (hs_lv σ [o]).bind fun _ =>
 (hs_nA σ 11 8 8).bind fun σ1 =>
 (hs_pR σ1 3 o 0 (some (hs_N σ))).bind fun σ7 =>
 (hs_lv σ7 [o]).bind fun _ =>
 (hs_nA σ7 11 8 8).bind fun σ8 =>
 (hs_pR σ8 3 o 1 (some (hs_N σ7))).bind fun σ14 =>
 some ((), σ14)
section SX1_init
variable {p : Program} {l : Launch} {e : Env} {s : State} {m : MethodId} {args : Array Value} {below : List Frame} {meth : Method} {c : Code} {X : hs_X} {ad : Nat → Nat} {A : Nat → Prop} {r : Unit} {τ : hs_T} {N0 : Nat}
set_option maxRecDepth 100000 in
set_option maxHeartbeats 4000000 in
theorem wX1_init_e (fu : Nat) (C : hs_Cx p s m args meth c X A yX1_init cX1_init 1 none wsX1_init) (hem : ad hs_em = X.2.2.1.2.2.2) {H : Heap} {locs : List Loc} {ls : Array Slot} (σ : hs_T) (o : Nat) (hf : fX1_init fu σ o = some (r, τ)) (hB : hs_H X.1 X.2.1 ad A σ H) (hS : va_S A s.heap H locs) (hl : lv_has ls 1 [(0, .ref (ad o))]) (hN : N0 = hs_N σ) : W p l e rmX1_init s m args below meth c H locs 0 0 (MQ below (hs_Q1 hs_tvv X ad N0 A r τ) args s 2 16 A) (F0 m 0 ls []) := by
  obtain ⟨hx, hb, hml, hr, hts, hown, hlk, hnm, hV, hA0, hA⟩ := id C
  have hown : s.vm.findClass RX1 = some m.cls := hown
  have hK := hV.1
  have hNw := hV.2.1
  unfold fX1_init at hf
  have hag : hs_Ag N0 ad ad := fun _ _ => rfl
  have hN0 : N0 ≤ hs_N σ := Nat.le_of_eq hN
  refine lv_aload_n hx hb dX1_init_0 rfl (lv_at hl 0 rfl) ?_
  refine W.objInit hx hb hown (hts _ lkX1_init_1) (hts _ lkX1_init_2) (hts _ lkX1_init_0) rfl (by rw [hml]; exact hl.1) rfl dX1_init_1 (Nat.le_of_ble_eq_true rfl) (Nat.le_of_ble_eq_true rfl) ?_
  refine W.eq (g2 := F0 m 4 ls []) rfl ?_
  refine lv_aload_n hx hb dX1_init_4 rfl (lv_at hl 0 rfl) ?_
  refine lv_bipush (v := 8) hx hb dX1_init_5 (by decide) ?_
  obtain ⟨_, h5, hf⟩ := hs_bi hf
  obtain ⟨σ1, h2, hf⟩ := hs_bi hf
  refine hs_newI (mx := 8) hx hb (hts _ lkX1_init_3) hK hB hS hA (by decide) h2 (Nat.le_of_ble_eq_true rfl) (Nat.le_of_ble_eq_true rfl) dX1_init_7 (fun ad3 H g4 hB hS => ?_)
  have hem : ad3 hs_em = X.2.2.1.2.2.2 := (g4 _ (Or.inr rfl)).trans hem
  have hag := hs_agt hag hN0 g4
  have hl : lv_has ls 1 [(0, .ref (ad3 o))] := by rw [g4 o (Or.inl (hs_lv_i h5 _ (List.mem_of_getElem? (i := 0) rfl)))]; exact hl
  refine W.eq (g2 := F0 m 9 ls [.ref (ad3 (hs_N σ)), .ref (ad3 o)]) (by rw [g4 o (Or.inl (hs_lv_i h5 _ (List.mem_of_getElem? (i := 0) rfl)))] <;> rfl) ?_
  have hN0 : N0 ≤ hs_N σ1 := by rw [hs_nA_N h2]; exact Nat.le_succ_of_le hN0
  obtain ⟨σ7, h6, hf⟩ := hs_bi hf
  refine x_putRsF hx hb hts inX1_init_X1 tyX1_ok nmX1 hown hK hB hS (by decide) rfl (k := 0) (by decide) rfl h6 (hts _ lkX1_init_4) (fun _ h9 => h9) rfl hnm rfl (ty := .array .int) (by decide +kernel) rfl rfl dX1_init_9 (fun H locs hB hS => ?_)
  have hN0 : N0 ≤ hs_N σ7 := by rw [hs_pR_N h6]; exact hN0
  refine lv_aload_n hx hb dX1_init_12 rfl (lv_at hl 0 rfl) ?_
  refine lv_bipush (v := 8) hx hb dX1_init_13 (by decide) ?_
  have hl := lv_sub hl [] (l' := []) rfl
  obtain ⟨_, h12, hf⟩ := hs_bi hf
  obtain ⟨σ8, h9, hf⟩ := hs_bi hf
  refine hs_newI (mx := 8) hx hb (hts _ lkX1_init_3) hK hB hS hA (by decide) h9 (Nat.le_of_ble_eq_true rfl) (Nat.le_of_ble_eq_true rfl) dX1_init_15 (fun ad10 H g11 hB hS => ?_)
  have hem : ad10 hs_em = X.2.2.1.2.2.2 := (g11 _ (Or.inr rfl)).trans hem
  have hag := hs_agt hag hN0 g11
  refine W.eq (g2 := F0 m 17 ls [.ref (ad10 (hs_N σ7)), .ref (ad10 o)]) (by rw [g11 o (Or.inl (hs_lv_i h12 _ (List.mem_of_getElem? (i := 0) rfl)))] <;> rfl) ?_
  have hN0 : N0 ≤ hs_N σ8 := by rw [hs_nA_N h9]; exact Nat.le_succ_of_le hN0
  obtain ⟨σ14, h13, hf⟩ := hs_bi hf
  refine x_putRsF hx hb hts inX1_init_X1 tyX1_ok nmX1 hown hK hB hS (by decide) rfl (k := 1) (by decide) rfl h13 (hts _ lkX1_init_5) (fun _ h9 => h9) rfl hnm rfl (ty := .array .int) (by decide +kernel) rfl rfl dX1_init_17 (fun H locs hB hS => ?_)
  have hN0 : N0 ≤ hs_N σ14 := by rw [hs_pR_N h13]; exact hN0
  obtain ⟨rfl, rfl⟩ := hs_ri hf
  refine W.widen (k := 2) (n := 16) (Nat.le_of_ble_eq_true rfl) (Nat.le_of_ble_eq_true rfl) ?_
  exact hs_vret1 hx hb hr hlk hag hB hS dX1_init_20
end SX1_init
set_option maxRecDepth 100000 in
theorem ctX1_init (l : Launch) (fu : Nat) (σ : hs_T) (o : Nat) : hs_C1 hs_tvv l yX1_init wsX1_init rmX1_init 2 16 (fun ad => [.ref (ad o)]) σ (fX1_init fu σ o) := by
  intro X ad sz r τ hf
  refine hs_enter (cc := cX1_init) (maxL := 1) (ret := none) (by decide) rfl (Nat.le_of_ble_eq_true rfl) ?_
  intro p e s m below meth c ls C hl hem hB hS hsz
  exact wX1_init_e fu C hem σ o hf hB hS hl rfl
/-! ServiceGame$Mail.<init>()V -/
abbrev rmX2_init : Room := { frames := 1, cells := 3, slots := 1200, locals := 12 }
theorem inX2_init_X2 : ∀ w ∈ wsX20, w ∈ wsX2_init := fun _ h => List.mem_cons_of_mem _ (List.mem_append_right _ h)
theorem lkX2_init_0 : Cond.code objectInit ⟨#[0xb1]⟩ 1 none ∈ wsX2_init := by decide +kernel
theorem lkX2_init_1 : Cond.methodLink RX2 3 objectInit ∈ wsX2_init := by decide +kernel
theorem lkX2_init_2 : Cond.instanceMethod objectInit ∈ wsX2_init := by decide +kernel
theorem lkX2_init_3 : Cond.arrayClass .int ∈ wsX2_init := by decide +kernel
theorem lkX2_init_4 : Cond.fieldLink RX2 9 "ServiceGame$Mail" "places" "[I" ∈ wsX2_init := by decide +kernel
theorem lkX2_init_5 : Cond.fieldLink RX2 15 "ServiceGame$Mail" "firsts" "[I" ∈ wsX2_init := by decide +kernel
theorem lkX2_init_6 : Cond.fieldLink RX2 18 "ServiceGame$Mail" "seconds" "[I" ∈ wsX2_init := by decide +kernel
def fX2_init (fu : Nat) (σ : hs_T) (o : Nat) : Option (Unit × hs_T) :=
 (hs_lv σ [o]).bind fun _ =>
 (hs_nA σ 11 400 400).bind fun σ1 =>
 (hs_pR σ1 4 o 0 (some (hs_N σ))).bind fun σ7 =>
 (hs_lv σ7 [o]).bind fun _ =>
 (hs_nA σ7 11 400 400).bind fun σ8 =>
 (hs_pR σ8 4 o 1 (some (hs_N σ7))).bind fun σ14 =>
 (hs_lv σ14 [o]).bind fun _ =>
 (hs_nA σ14 11 400 400).bind fun σ15 =>
 (hs_pR σ15 4 o 2 (some (hs_N σ14))).bind fun σ21 =>
 some ((), σ21)
section SX2_init
variable {p : Program} {l : Launch} {e : Env} {s : State} {m : MethodId} {args : Array Value} {below : List Frame} {meth : Method} {c : Code} {X : hs_X} {ad : Nat → Nat} {A : Nat → Prop} {r : Unit} {τ : hs_T} {N0 : Nat}
set_option maxRecDepth 100000 in
set_option maxHeartbeats 4000000 in
theorem wX2_init_e (fu : Nat) (C : hs_Cx p s m args meth c X A yX2_init cX2_init 1 none wsX2_init) (hem : ad hs_em = X.2.2.1.2.2.2) {H : Heap} {locs : List Loc} {ls : Array Slot} (σ : hs_T) (o : Nat) (hf : fX2_init fu σ o = some (r, τ)) (hB : hs_H X.1 X.2.1 ad A σ H) (hS : va_S A s.heap H locs) (hl : lv_has ls 1 [(0, .ref (ad o))]) (hN : N0 = hs_N σ) : W p l e rmX2_init s m args below meth c H locs 0 0 (MQ below (hs_Q1 hs_tvv X ad N0 A r τ) args s 3 1200 A) (F0 m 0 ls []) := by
  obtain ⟨hx, hb, hml, hr, hts, hown, hlk, hnm, hV, hA0, hA⟩ := id C
  have hown : s.vm.findClass RX2 = some m.cls := hown
  have hK := hV.1
  have hNw := hV.2.1
  unfold fX2_init at hf
  have hag : hs_Ag N0 ad ad := fun _ _ => rfl
  have hN0 : N0 ≤ hs_N σ := Nat.le_of_eq hN
  refine lv_aload_n hx hb dX2_init_0 rfl (lv_at hl 0 rfl) ?_
  refine W.objInit hx hb hown (hts _ lkX2_init_1) (hts _ lkX2_init_2) (hts _ lkX2_init_0) rfl (by rw [hml]; exact hl.1) rfl dX2_init_1 (Nat.le_of_ble_eq_true rfl) (Nat.le_of_ble_eq_true rfl) ?_
  refine W.eq (g2 := F0 m 4 ls []) rfl ?_
  refine lv_aload_n hx hb dX2_init_4 rfl (lv_at hl 0 rfl) ?_
  refine lv_sipush (v := 400) hx hb dX2_init_5 (by decide) ?_
  obtain ⟨_, h5, hf⟩ := hs_bi hf
  obtain ⟨σ1, h2, hf⟩ := hs_bi hf
  refine hs_newI (mx := 400) hx hb (hts _ lkX2_init_3) hK hB hS hA (by decide) h2 (Nat.le_of_ble_eq_true rfl) (Nat.le_of_ble_eq_true rfl) dX2_init_8 (fun ad3 H g4 hB hS => ?_)
  have hem : ad3 hs_em = X.2.2.1.2.2.2 := (g4 _ (Or.inr rfl)).trans hem
  have hag := hs_agt hag hN0 g4
  have hl : lv_has ls 1 [(0, .ref (ad3 o))] := by rw [g4 o (Or.inl (hs_lv_i h5 _ (List.mem_of_getElem? (i := 0) rfl)))]; exact hl
  refine W.eq (g2 := F0 m 10 ls [.ref (ad3 (hs_N σ)), .ref (ad3 o)]) (by rw [g4 o (Or.inl (hs_lv_i h5 _ (List.mem_of_getElem? (i := 0) rfl)))] <;> rfl) ?_
  have hN0 : N0 ≤ hs_N σ1 := by rw [hs_nA_N h2]; exact Nat.le_succ_of_le hN0
  obtain ⟨σ7, h6, hf⟩ := hs_bi hf
  refine x_putRsF hx hb hts inX2_init_X2 tyX2_ok nmX2 hown hK hB hS (by decide) rfl (k := 0) (by decide) rfl h6 (hts _ lkX2_init_4) (fun _ h9 => h9) rfl hnm rfl (ty := .array .int) (by decide +kernel) rfl rfl dX2_init_10 (fun H locs hB hS => ?_)
  have hN0 : N0 ≤ hs_N σ7 := by rw [hs_pR_N h6]; exact hN0
  refine lv_aload_n hx hb dX2_init_13 rfl (lv_at hl 0 rfl) ?_
  refine lv_sipush (v := 400) hx hb dX2_init_14 (by decide) ?_
  obtain ⟨_, h12, hf⟩ := hs_bi hf
  obtain ⟨σ8, h9, hf⟩ := hs_bi hf
  refine hs_newI (mx := 400) hx hb (hts _ lkX2_init_3) hK hB hS hA (by decide) h9 (Nat.le_of_ble_eq_true rfl) (Nat.le_of_ble_eq_true rfl) dX2_init_17 (fun ad10 H g11 hB hS => ?_)
  have hem : ad10 hs_em = X.2.2.1.2.2.2 := (g11 _ (Or.inr rfl)).trans hem
  have hag := hs_agt hag hN0 g11
  have hl : lv_has ls 1 [(0, .ref (ad10 o))] := by rw [g11 o (Or.inl (hs_lv_i h12 _ (List.mem_of_getElem? (i := 0) rfl)))]; exact hl
  refine W.eq (g2 := F0 m 19 ls [.ref (ad10 (hs_N σ7)), .ref (ad10 o)]) (by rw [g11 o (Or.inl (hs_lv_i h12 _ (List.mem_of_getElem? (i := 0) rfl)))] <;> rfl) ?_
  have hN0 : N0 ≤ hs_N σ8 := by rw [hs_nA_N h9]; exact Nat.le_succ_of_le hN0
  obtain ⟨σ14, h13, hf⟩ := hs_bi hf
  refine x_putRsF hx hb hts inX2_init_X2 tyX2_ok nmX2 hown hK hB hS (by decide) rfl (k := 1) (by decide) rfl h13 (hts _ lkX2_init_5) (fun _ h9 => h9) rfl hnm rfl (ty := .array .int) (by decide +kernel) rfl rfl dX2_init_19 (fun H locs hB hS => ?_)
  have hN0 : N0 ≤ hs_N σ14 := by rw [hs_pR_N h13]; exact hN0
  refine lv_aload_n hx hb dX2_init_22 rfl (lv_at hl 0 rfl) ?_
  refine lv_sipush (v := 400) hx hb dX2_init_23 (by decide) ?_
  have hl := lv_sub hl [] (l' := []) rfl
  obtain ⟨_, h19, hf⟩ := hs_bi hf
  obtain ⟨σ15, h16, hf⟩ := hs_bi hf
  refine hs_newI (mx := 400) hx hb (hts _ lkX2_init_3) hK hB hS hA (by decide) h16 (Nat.le_of_ble_eq_true rfl) (Nat.le_of_ble_eq_true rfl) dX2_init_26 (fun ad17 H g18 hB hS => ?_)
  have hem : ad17 hs_em = X.2.2.1.2.2.2 := (g18 _ (Or.inr rfl)).trans hem
  have hag := hs_agt hag hN0 g18
  refine W.eq (g2 := F0 m 28 ls [.ref (ad17 (hs_N σ14)), .ref (ad17 o)]) (by rw [g18 o (Or.inl (hs_lv_i h19 _ (List.mem_of_getElem? (i := 0) rfl)))] <;> rfl) ?_
  have hN0 : N0 ≤ hs_N σ15 := by rw [hs_nA_N h16]; exact Nat.le_succ_of_le hN0
  obtain ⟨σ21, h20, hf⟩ := hs_bi hf
  refine x_putRsF hx hb hts inX2_init_X2 tyX2_ok nmX2 hown hK hB hS (by decide) rfl (k := 2) (by decide) rfl h20 (hts _ lkX2_init_6) (fun _ h9 => h9) rfl hnm rfl (ty := .array .int) (by decide +kernel) rfl rfl dX2_init_28 (fun H locs hB hS => ?_)
  have hN0 : N0 ≤ hs_N σ21 := by rw [hs_pR_N h20]; exact hN0
  obtain ⟨rfl, rfl⟩ := hs_ri hf
  refine W.widen (k := 3) (n := 1200) (Nat.le_of_ble_eq_true rfl) (Nat.le_of_ble_eq_true rfl) ?_
  exact hs_vret1 hx hb hr hlk hag hB hS dX2_init_31
end SX2_init
set_option maxRecDepth 100000 in
theorem ctX2_init (l : Launch) (fu : Nat) (σ : hs_T) (o : Nat) : hs_C1 hs_tvv l yX2_init wsX2_init rmX2_init 3 1200 (fun ad => [.ref (ad o)]) σ (fX2_init fu σ o) := by
  intro X ad sz r τ hf
  refine hs_enter (cc := cX2_init) (maxL := 1) (ret := none) (by decide) rfl (Nat.le_of_ble_eq_true rfl) ?_
  intro p e s m below meth c ls C hl hem hB hS hsz
  exact wX2_init_e fu C hem σ o hf hB hS hl rfl
/-! ServiceGame$Program.<init>([I[II)V -/
abbrev rmX3_init : Room := { frames := 1, cells := 2, slots := 48, locals := 18 }
theorem inX3_init_X3 : ∀ w ∈ wsX30, w ∈ wsX3_init := fun _ h => List.mem_cons_of_mem _ (List.mem_append_right _ h)
theorem lkX3_init_0 : Cond.code objectInit ⟨#[0xb1]⟩ 1 none ∈ wsX3_init := by decide +kernel
theorem lkX3_init_1 : Cond.methodLink RX3 1 objectInit ∈ wsX3_init := by decide +kernel
theorem lkX3_init_2 : Cond.instanceMethod objectInit ∈ wsX3_init := by decide +kernel
theorem lkX3_init_3 : Cond.fieldLink RX3 7 "ServiceGame$Program" "size" "I" ∈ wsX3_init := by decide +kernel
theorem lkX3_init_4 : Cond.arrayClass .int ∈ wsX3_init := by decide +kernel
theorem lkX3_init_5 : Cond.fieldLink RX3 13 "ServiceGame$Program" "signs" "[I" ∈ wsX3_init := by decide +kernel
theorem lkX3_init_6 : Cond.fieldLink RX3 17 "ServiceGame$Program" "numbers" "[I" ∈ wsX3_init := by decide +kernel
theorem lkX3_init_7 : Cond.methodLink RX3 20 arraycopyName ∈ wsX3_init := by decide +kernel
theorem lkX3_init_8 : Cond.native arraycopyName ∈ wsX3_init := by decide +kernel
theorem lkX3_init_9 : Cond.static arraycopyName ∈ wsX3_init := by decide +kernel
theorem lkX3_init_10 : Cond.initialized "java/lang/System" ∈ wsX3_init := by decide +kernel
def fX3_init (fu : Nat) (σ : hs_T) (o : Nat) (a1 : Nat) (a2 : Nat) (a3 : Int32) : Option (Unit × hs_T) :=
 (hs_pI σ 5 o 0 a3).bind fun σ2 =>
 (hs_lv σ2 [o, a1, a2]).bind fun _ =>
 (hs_nA σ2 11 a3 24).bind fun σ3 =>
 (hs_pR σ3 5 o 1 (some (hs_N σ2))).bind fun σ9 =>
 (hs_lv σ9 [o, a1, a2]).bind fun _ =>
 (hs_nA σ9 11 a3 24).bind fun σ10 =>
 (hs_pR σ10 5 o 2 (some (hs_N σ9))).bind fun σ16 =>
 (hs_gN σ16 5 o 1).bind fun n18 =>
 (hs_cp σ16 a1 0 n18 0 a3).bind fun σ19 =>
 (hs_gN σ19 5 o 2).bind fun n22 =>
 (hs_cp σ19 a2 0 n22 0 a3).bind fun σ23 =>
 some ((), σ23)
section SX3_init
variable {p : Program} {l : Launch} {e : Env} {s : State} {m : MethodId} {args : Array Value} {below : List Frame} {meth : Method} {c : Code} {X : hs_X} {ad : Nat → Nat} {A : Nat → Prop} {r : Unit} {τ : hs_T} {N0 : Nat}
set_option maxRecDepth 100000 in
set_option maxHeartbeats 4000000 in
theorem wX3_init_e (fu : Nat) (C : hs_Cx p s m args meth c X A yX3_init cX3_init 4 none wsX3_init) (hem : ad hs_em = X.2.2.1.2.2.2) {H : Heap} {locs : List Loc} {ls : Array Slot} (σ : hs_T) (o : Nat) (a1 : Nat) (a2 : Nat) (a3 : Int32) (hf : fX3_init fu σ o a1 a2 a3 = some (r, τ)) (hB : hs_H X.1 X.2.1 ad A σ H) (hS : va_S A s.heap H locs) (hl : lv_has ls 4 [(0, .ref (ad o)), (1, .ref (ad a1)), (2, .ref (ad a2)), (3, .int a3)]) (hN : N0 = hs_N σ) : W p l e rmX3_init s m args below meth c H locs 0 0 (MQ below (hs_Q1 hs_tvv X ad N0 A r τ) args s 2 48 A) (F0 m 0 ls []) := by
  obtain ⟨hx, hb, hml, hr, hts, hown, hlk, hnm, hV, hA0, hA⟩ := id C
  have hown : s.vm.findClass RX3 = some m.cls := hown
  have hK := hV.1
  have hNw := hV.2.1
  unfold fX3_init at hf
  have hag : hs_Ag N0 ad ad := fun _ _ => rfl
  have hN0 : N0 ≤ hs_N σ := Nat.le_of_eq hN
  refine lv_aload_n hx hb dX3_init_0 rfl (lv_at hl 0 rfl) ?_
  refine W.objInit hx hb hown (hts _ lkX3_init_1) (hts _ lkX3_init_2) (hts _ lkX3_init_0) rfl (by rw [hml]; exact hl.1) rfl dX3_init_1 (Nat.le_of_ble_eq_true rfl) (Nat.le_of_ble_eq_true rfl) ?_
  refine W.eq (g2 := F0 m 4 ls []) rfl ?_
  refine lv_aload_n hx hb dX3_init_4 rfl (lv_at hl 0 rfl) ?_
  refine lv_iload_n hx hb dX3_init_5 rfl (lv_at hl 3 rfl) ?_
  obtain ⟨σ2, h1, hf⟩ := hs_bi hf
  refine x_putIF hx hb hts inX3_init_X3 tyX3_ok nmX3 hown hK hB hS (by decide) rfl (k := 0) (by decide) rfl h1 (hts _ lkX3_init_3) (fun _ h9 => h9) rfl hnm rfl (by decide +kernel) dX3_init_6 (fun H locs hB hS => ?_)
  have hN0 : N0 ≤ hs_N σ2 := by rw [hs_pI_N h1]; exact hN0
  refine lv_aload_n hx hb dX3_init_9 rfl (lv_at hl 0 rfl) ?_
  refine lv_iload_n hx hb dX3_init_10 rfl (lv_at hl 3 rfl) ?_
  obtain ⟨_, h7, hf⟩ := hs_bi hf
  obtain ⟨σ3, h4, hf⟩ := hs_bi hf
  refine hs_newI (mx := 24) hx hb (hts _ lkX3_init_4) hK hB hS hA (by decide) h4 (Nat.le_of_ble_eq_true rfl) (Nat.le_of_ble_eq_true rfl) dX3_init_11 (fun ad5 H g6 hB hS => ?_)
  have hem : ad5 hs_em = X.2.2.1.2.2.2 := (g6 _ (Or.inr rfl)).trans hem
  have hag := hs_agt hag hN0 g6
  have hl : lv_has ls 4 [(0, .ref (ad5 o)), (1, .ref (ad5 a1)), (2, .ref (ad5 a2)), (3, .int a3)] := by rw [g6 o (Or.inl (hs_lv_i h7 _ (List.mem_of_getElem? (i := 0) rfl))), g6 a1 (Or.inl (hs_lv_i h7 _ (List.mem_of_getElem? (i := 1) rfl))), g6 a2 (Or.inl (hs_lv_i h7 _ (List.mem_of_getElem? (i := 2) rfl)))]; exact hl
  refine W.eq (g2 := F0 m 13 ls [.ref (ad5 (hs_N σ2)), .ref (ad5 o)]) (by rw [g6 o (Or.inl (hs_lv_i h7 _ (List.mem_of_getElem? (i := 0) rfl)))] <;> rfl) ?_
  have hN0 : N0 ≤ hs_N σ3 := by rw [hs_nA_N h4]; exact Nat.le_succ_of_le hN0
  obtain ⟨σ9, h8, hf⟩ := hs_bi hf
  refine x_putRsF hx hb hts inX3_init_X3 tyX3_ok nmX3 hown hK hB hS (by decide) rfl (k := 1) (by decide) rfl h8 (hts _ lkX3_init_5) (fun _ h9 => h9) rfl hnm rfl (ty := .array .int) (by decide +kernel) rfl rfl dX3_init_13 (fun H locs hB hS => ?_)
  have hN0 : N0 ≤ hs_N σ9 := by rw [hs_pR_N h8]; exact hN0
  refine lv_aload_n hx hb dX3_init_16 rfl (lv_at hl 0 rfl) ?_
  refine lv_iload_n hx hb dX3_init_17 rfl (lv_at hl 3 rfl) ?_
  obtain ⟨_, h14, hf⟩ := hs_bi hf
  obtain ⟨σ10, h11, hf⟩ := hs_bi hf
  refine hs_newI (mx := 24) hx hb (hts _ lkX3_init_4) hK hB hS hA (by decide) h11 (Nat.le_of_ble_eq_true rfl) (Nat.le_of_ble_eq_true rfl) dX3_init_18 (fun ad12 H g13 hB hS => ?_)
  have hem : ad12 hs_em = X.2.2.1.2.2.2 := (g13 _ (Or.inr rfl)).trans hem
  have hag := hs_agt hag hN0 g13
  have hl : lv_has ls 4 [(0, .ref (ad12 o)), (1, .ref (ad12 a1)), (2, .ref (ad12 a2)), (3, .int a3)] := by rw [g13 o (Or.inl (hs_lv_i h14 _ (List.mem_of_getElem? (i := 0) rfl))), g13 a1 (Or.inl (hs_lv_i h14 _ (List.mem_of_getElem? (i := 1) rfl))), g13 a2 (Or.inl (hs_lv_i h14 _ (List.mem_of_getElem? (i := 2) rfl)))]; exact hl
  refine W.eq (g2 := F0 m 20 ls [.ref (ad12 (hs_N σ9)), .ref (ad12 o)]) (by rw [g13 o (Or.inl (hs_lv_i h14 _ (List.mem_of_getElem? (i := 0) rfl)))] <;> rfl) ?_
  have hN0 : N0 ≤ hs_N σ10 := by rw [hs_nA_N h11]; exact Nat.le_succ_of_le hN0
  obtain ⟨σ16, h15, hf⟩ := hs_bi hf
  refine x_putRsF hx hb hts inX3_init_X3 tyX3_ok nmX3 hown hK hB hS (by decide) rfl (k := 2) (by decide) rfl h15 (hts _ lkX3_init_6) (fun _ h9 => h9) rfl hnm rfl (ty := .array .int) (by decide +kernel) rfl rfl dX3_init_20 (fun H locs hB hS => ?_)
  have hN0 : N0 ≤ hs_N σ16 := by rw [hs_pR_N h15]; exact hN0
  refine lv_aload_n hx hb dX3_init_23 rfl (lv_at hl 1 rfl) ?_
  refine lv_iconst (v := 0) hx hb dX3_init_24 (by decide) ?_
  refine lv_aload_n hx hb dX3_init_25 rfl (lv_at hl 0 rfl) ?_
  obtain ⟨n18, h17, hf⟩ := hs_bi hf
  refine x_getN hx hb hts inX3_init_X3 hown hK hB (by decide) rfl (k := 1) (by decide) rfl h17 (hts _ lkX3_init_5) (fun _ h9 => h9) dX3_init_26 ?_
  refine lv_iconst (v := 0) hx hb dX3_init_29 (by decide) ?_
  refine lv_iload_n hx hb dX3_init_30 rfl (lv_at hl 3 rfl) ?_
  obtain ⟨σ19, h20, hf⟩ := hs_bi hf
  refine x_copy hx hb (hml.trans hl.1.symm) hown (hts _ lkX3_init_7) (hts _ lkX3_init_8) (hts _ lkX3_init_9) (hts _ lkX3_init_10) hK hB hS h20 (Nat.le_of_ble_eq_true rfl) (Nat.le_of_ble_eq_true rfl) dX3_init_31 (fun H locs hB hS => ?_)
  have hN0 : N0 ≤ hs_N σ19 := by rw [hs_cp_N h20]; exact hN0
  refine lv_aload_n hx hb dX3_init_34 rfl (lv_at hl 2 rfl) ?_
  refine lv_iconst (v := 0) hx hb dX3_init_35 (by decide) ?_
  refine lv_aload_n hx hb dX3_init_36 rfl (lv_at hl 0 rfl) ?_
  obtain ⟨n22, h21, hf⟩ := hs_bi hf
  refine x_getN hx hb hts inX3_init_X3 hown hK hB (by decide) rfl (k := 2) (by decide) rfl h21 (hts _ lkX3_init_6) (fun _ h9 => h9) dX3_init_37 ?_
  refine lv_iconst (v := 0) hx hb dX3_init_40 (by decide) ?_
  refine lv_iload_n hx hb dX3_init_41 rfl (lv_at hl 3 rfl) ?_
  obtain ⟨σ23, h24, hf⟩ := hs_bi hf
  refine x_copy hx hb (hml.trans hl.1.symm) hown (hts _ lkX3_init_7) (hts _ lkX3_init_8) (hts _ lkX3_init_9) (hts _ lkX3_init_10) hK hB hS h24 (Nat.le_of_ble_eq_true rfl) (Nat.le_of_ble_eq_true rfl) dX3_init_42 (fun H locs hB hS => ?_)
  have hN0 : N0 ≤ hs_N σ23 := by rw [hs_cp_N h24]; exact hN0
  obtain ⟨rfl, rfl⟩ := hs_ri hf
  refine W.widen (k := 2) (n := 48) (Nat.le_of_ble_eq_true rfl) (Nat.le_of_ble_eq_true rfl) ?_
  exact hs_vret1 hx hb hr hlk hag hB hS dX3_init_45
end SX3_init
set_option maxRecDepth 100000 in
theorem ctX3_init (l : Launch) (fu : Nat) (σ : hs_T) (o : Nat) (a1 : Nat) (a2 : Nat) (a3 : Int32) : hs_C1 hs_tvv l yX3_init wsX3_init rmX3_init 2 48 (fun ad => [.ref (ad o), .ref (ad a1), .ref (ad a2), .int a3]) σ (fX3_init fu σ o a1 a2 a3) := by
  intro X ad sz r τ hf
  refine hs_enter (cc := cX3_init) (maxL := 4) (ret := none) (by decide) rfl (Nat.le_of_ble_eq_true rfl) ?_
  intro p e s m below meth c ls C hl hem hB hS hsz
  exact wX3_init_e fu C hem σ o a1 a2 a3 hf hB hS hl rfl
/-! ServiceGame$Reader.<init>()V -/
abbrev rmX4_init : Room := { frames := 1, cells := 2, slots := 48, locals := 12 }
theorem inX4_init_X4 : ∀ w ∈ wsX40, w ∈ wsX4_init := fun _ h => List.mem_cons_of_mem _ (List.mem_append_right _ h)
theorem lkX4_init_0 : Cond.code objectInit ⟨#[0xb1]⟩ 1 none ∈ wsX4_init := by decide +kernel
theorem lkX4_init_1 : Cond.methodLink RX4 3 objectInit ∈ wsX4_init := by decide +kernel
theorem lkX4_init_2 : Cond.instanceMethod objectInit ∈ wsX4_init := by decide +kernel
theorem lkX4_init_3 : Cond.arrayClass .int ∈ wsX4_init := by decide +kernel
theorem lkX4_init_4 : Cond.fieldLink RX4 9 "ServiceGame$Reader" "signs" "[I" ∈ wsX4_init := by decide +kernel
theorem lkX4_init_5 : Cond.fieldLink RX4 15 "ServiceGame$Reader" "numbers" "[I" ∈ wsX4_init := by decide +kernel
def fX4_init (fu : Nat) (σ : hs_T) (o : Nat) : Option (Unit × hs_T) :=
 (hs_lv σ [o]).bind fun _ =>
 (hs_nA σ 11 24 24).bind fun σ1 =>
 (hs_pR σ1 6 o 0 (some (hs_N σ))).bind fun σ7 =>
 (hs_lv σ7 [o]).bind fun _ =>
 (hs_nA σ7 11 24 24).bind fun σ8 =>
 (hs_pR σ8 6 o 1 (some (hs_N σ7))).bind fun σ14 =>
 some ((), σ14)
section SX4_init
variable {p : Program} {l : Launch} {e : Env} {s : State} {m : MethodId} {args : Array Value} {below : List Frame} {meth : Method} {c : Code} {X : hs_X} {ad : Nat → Nat} {A : Nat → Prop} {r : Unit} {τ : hs_T} {N0 : Nat}
set_option maxRecDepth 100000 in
set_option maxHeartbeats 4000000 in
theorem wX4_init_e (fu : Nat) (C : hs_Cx p s m args meth c X A yX4_init cX4_init 1 none wsX4_init) (hem : ad hs_em = X.2.2.1.2.2.2) {H : Heap} {locs : List Loc} {ls : Array Slot} (σ : hs_T) (o : Nat) (hf : fX4_init fu σ o = some (r, τ)) (hB : hs_H X.1 X.2.1 ad A σ H) (hS : va_S A s.heap H locs) (hl : lv_has ls 1 [(0, .ref (ad o))]) (hN : N0 = hs_N σ) : W p l e rmX4_init s m args below meth c H locs 0 0 (MQ below (hs_Q1 hs_tvv X ad N0 A r τ) args s 2 48 A) (F0 m 0 ls []) := by
  obtain ⟨hx, hb, hml, hr, hts, hown, hlk, hnm, hV, hA0, hA⟩ := id C
  have hown : s.vm.findClass RX4 = some m.cls := hown
  have hK := hV.1
  have hNw := hV.2.1
  unfold fX4_init at hf
  have hag : hs_Ag N0 ad ad := fun _ _ => rfl
  have hN0 : N0 ≤ hs_N σ := Nat.le_of_eq hN
  refine lv_aload_n hx hb dX4_init_0 rfl (lv_at hl 0 rfl) ?_
  refine W.objInit hx hb hown (hts _ lkX4_init_1) (hts _ lkX4_init_2) (hts _ lkX4_init_0) rfl (by rw [hml]; exact hl.1) rfl dX4_init_1 (Nat.le_of_ble_eq_true rfl) (Nat.le_of_ble_eq_true rfl) ?_
  refine W.eq (g2 := F0 m 4 ls []) rfl ?_
  refine lv_aload_n hx hb dX4_init_4 rfl (lv_at hl 0 rfl) ?_
  refine lv_bipush (v := 24) hx hb dX4_init_5 (by decide) ?_
  obtain ⟨_, h5, hf⟩ := hs_bi hf
  obtain ⟨σ1, h2, hf⟩ := hs_bi hf
  refine hs_newI (mx := 24) hx hb (hts _ lkX4_init_3) hK hB hS hA (by decide) h2 (Nat.le_of_ble_eq_true rfl) (Nat.le_of_ble_eq_true rfl) dX4_init_7 (fun ad3 H g4 hB hS => ?_)
  have hem : ad3 hs_em = X.2.2.1.2.2.2 := (g4 _ (Or.inr rfl)).trans hem
  have hag := hs_agt hag hN0 g4
  have hl : lv_has ls 1 [(0, .ref (ad3 o))] := by rw [g4 o (Or.inl (hs_lv_i h5 _ (List.mem_of_getElem? (i := 0) rfl)))]; exact hl
  refine W.eq (g2 := F0 m 9 ls [.ref (ad3 (hs_N σ)), .ref (ad3 o)]) (by rw [g4 o (Or.inl (hs_lv_i h5 _ (List.mem_of_getElem? (i := 0) rfl)))] <;> rfl) ?_
  have hN0 : N0 ≤ hs_N σ1 := by rw [hs_nA_N h2]; exact Nat.le_succ_of_le hN0
  obtain ⟨σ7, h6, hf⟩ := hs_bi hf
  refine x_putRsF hx hb hts inX4_init_X4 tyX4_ok nmX4 hown hK hB hS (by decide) rfl (k := 0) (by decide) rfl h6 (hts _ lkX4_init_4) (fun _ h9 => h9) rfl hnm rfl (ty := .array .int) (by decide +kernel) rfl rfl dX4_init_9 (fun H locs hB hS => ?_)
  have hN0 : N0 ≤ hs_N σ7 := by rw [hs_pR_N h6]; exact hN0
  refine lv_aload_n hx hb dX4_init_12 rfl (lv_at hl 0 rfl) ?_
  refine lv_bipush (v := 24) hx hb dX4_init_13 (by decide) ?_
  have hl := lv_sub hl [] (l' := []) rfl
  obtain ⟨_, h12, hf⟩ := hs_bi hf
  obtain ⟨σ8, h9, hf⟩ := hs_bi hf
  refine hs_newI (mx := 24) hx hb (hts _ lkX4_init_3) hK hB hS hA (by decide) h9 (Nat.le_of_ble_eq_true rfl) (Nat.le_of_ble_eq_true rfl) dX4_init_15 (fun ad10 H g11 hB hS => ?_)
  have hem : ad10 hs_em = X.2.2.1.2.2.2 := (g11 _ (Or.inr rfl)).trans hem
  have hag := hs_agt hag hN0 g11
  refine W.eq (g2 := F0 m 17 ls [.ref (ad10 (hs_N σ7)), .ref (ad10 o)]) (by rw [g11 o (Or.inl (hs_lv_i h12 _ (List.mem_of_getElem? (i := 0) rfl)))] <;> rfl) ?_
  have hN0 : N0 ≤ hs_N σ8 := by rw [hs_nA_N h9]; exact Nat.le_succ_of_le hN0
  obtain ⟨σ14, h13, hf⟩ := hs_bi hf
  refine x_putRsF hx hb hts inX4_init_X4 tyX4_ok nmX4 hown hK hB hS (by decide) rfl (k := 1) (by decide) rfl h13 (hts _ lkX4_init_5) (fun _ h9 => h9) rfl hnm rfl (ty := .array .int) (by decide +kernel) rfl rfl dX4_init_17 (fun H locs hB hS => ?_)
  have hN0 : N0 ≤ hs_N σ14 := by rw [hs_pR_N h13]; exact hN0
  obtain ⟨rfl, rfl⟩ := hs_ri hf
  refine W.widen (k := 2) (n := 48) (Nat.le_of_ble_eq_true rfl) (Nat.le_of_ble_eq_true rfl) ?_
  exact hs_vret1 hx hb hr hlk hag hB hS dX4_init_20
end SX4_init
set_option maxRecDepth 100000 in
theorem ctX4_init (l : Launch) (fu : Nat) (σ : hs_T) (o : Nat) : hs_C1 hs_tvv l yX4_init wsX4_init rmX4_init 2 48 (fun ad => [.ref (ad o)]) σ (fX4_init fu σ o) := by
  intro X ad sz r τ hf
  refine hs_enter (cc := cX4_init) (maxL := 1) (ret := none) (by decide) rfl (Nat.le_of_ble_eq_true rfl) ?_
  intro p e s m below meth c ls C hl hem hB hS hsz
  exact wX4_init_e fu C hem σ o hf hB hS hl rfl
/-! ServiceGame$Service.<init>(II)V -/
abbrev rmX5_init : Room := { frames := 1, cells := 7, slots := 621, locals := 12 }
theorem inX5_init_X5 : ∀ w ∈ wsX50, w ∈ wsX5_init := fun _ h => List.mem_cons_of_mem _ (List.mem_append_right _ h)
theorem lkX5_init_0 : Cond.code objectInit ⟨#[0xb1]⟩ 1 none ∈ wsX5_init := by decide +kernel
theorem lkX5_init_1 : Cond.methodLink RX5 3 objectInit ∈ wsX5_init := by decide +kernel
theorem lkX5_init_2 : Cond.instanceMethod objectInit ∈ wsX5_init := by decide +kernel
theorem lkX5_init_3 : Cond.arrayClass .int ∈ wsX5_init := by decide +kernel
theorem lkX5_init_4 : Cond.fieldLink RX5 9 "ServiceGame$Service" "cells" "[I" ∈ wsX5_init := by decide +kernel
theorem lkX5_init_5 : Cond.fieldLink RX5 15 "ServiceGame$Service" "upAhead" "[I" ∈ wsX5_init := by decide +kernel
theorem lkX5_init_6 : Cond.fieldLink RX5 18 "ServiceGame$Service" "takenAfter" "[I" ∈ wsX5_init := by decide +kernel
theorem lkX5_init_7 : Cond.fieldLink RX5 21 "ServiceGame$Service" "checkKinds" "[I" ∈ wsX5_init := by decide +kernel
theorem lkX5_init_8 : Cond.fieldLink RX5 24 "ServiceGame$Service" "checkNumbers" "[I" ∈ wsX5_init := by decide +kernel
theorem lkX5_init_9 : Cond.fieldLink RX5 27 "ServiceGame$Service" "checkAnswers" "[I" ∈ wsX5_init := by decide +kernel
theorem lkX5_init_10 : Cond.fieldLink RX5 30 "ServiceGame$Service" "checkRights" "[I" ∈ wsX5_init := by decide +kernel
theorem lkX5_init_11 : Cond.fieldLink RX5 33 "ServiceGame$Service" "team" "I" ∈ wsX5_init := by decide +kernel
theorem lkX5_init_12 : Cond.fieldLink RX5 37 "ServiceGame$Service" "number" "I" ∈ wsX5_init := by decide +kernel
def fX5_init (fu : Nat) (σ : hs_T) (o : Nat) (a1 : Int32) (a2 : Int32) : Option (Unit × hs_T) :=
 (hs_lv σ [o]).bind fun _ =>
 (hs_nA σ 11 8 8).bind fun σ1 =>
 (hs_pR σ1 7 o 2 (some (hs_N σ))).bind fun σ7 =>
 (hs_lv σ7 [o]).bind fun _ =>
 (hs_nA σ7 11 101 101).bind fun σ8 =>
 (hs_pR σ8 7 o 3 (some (hs_N σ7))).bind fun σ14 =>
 (hs_lv σ14 [o]).bind fun _ =>
 (hs_nA σ14 11 500 500).bind fun σ15 =>
 (hs_pR σ15 7 o 4 (some (hs_N σ14))).bind fun σ21 =>
 (hs_lv σ21 [o]).bind fun _ =>
 (hs_nA σ21 11 3 3).bind fun σ22 =>
 (hs_pR σ22 7 o 5 (some (hs_N σ21))).bind fun σ28 =>
 (hs_lv σ28 [o]).bind fun _ =>
 (hs_nA σ28 11 3 3).bind fun σ29 =>
 (hs_pR σ29 7 o 6 (some (hs_N σ28))).bind fun σ35 =>
 (hs_lv σ35 [o]).bind fun _ =>
 (hs_nA σ35 11 3 3).bind fun σ36 =>
 (hs_pR σ36 7 o 7 (some (hs_N σ35))).bind fun σ42 =>
 (hs_lv σ42 [o]).bind fun _ =>
 (hs_nA σ42 11 3 3).bind fun σ43 =>
 (hs_pR σ43 7 o 8 (some (hs_N σ42))).bind fun σ49 =>
 (hs_pI σ49 7 o 0 a1).bind fun σ51 =>
 (hs_pI σ51 7 o 1 a2).bind fun σ53 =>
 some ((), σ53)
section SX5_init
variable {p : Program} {l : Launch} {e : Env} {s : State} {m : MethodId} {args : Array Value} {below : List Frame} {meth : Method} {c : Code} {X : hs_X} {ad : Nat → Nat} {A : Nat → Prop} {r : Unit} {τ : hs_T} {N0 : Nat}
set_option maxRecDepth 100000 in
set_option maxHeartbeats 4000000 in
theorem wX5_init_e (fu : Nat) (C : hs_Cx p s m args meth c X A yX5_init cX5_init 3 none wsX5_init) (hem : ad hs_em = X.2.2.1.2.2.2) {H : Heap} {locs : List Loc} {ls : Array Slot} (σ : hs_T) (o : Nat) (a1 : Int32) (a2 : Int32) (hf : fX5_init fu σ o a1 a2 = some (r, τ)) (hB : hs_H X.1 X.2.1 ad A σ H) (hS : va_S A s.heap H locs) (hl : lv_has ls 3 [(0, .ref (ad o)), (1, .int a1), (2, .int a2)]) (hN : N0 = hs_N σ) : W p l e rmX5_init s m args below meth c H locs 0 0 (MQ below (hs_Q1 hs_tvv X ad N0 A r τ) args s 7 621 A) (F0 m 0 ls []) := by
  obtain ⟨hx, hb, hml, hr, hts, hown, hlk, hnm, hV, hA0, hA⟩ := id C
  have hown : s.vm.findClass RX5 = some m.cls := hown
  have hK := hV.1
  have hNw := hV.2.1
  unfold fX5_init at hf
  have hag : hs_Ag N0 ad ad := fun _ _ => rfl
  have hN0 : N0 ≤ hs_N σ := Nat.le_of_eq hN
  refine lv_aload_n hx hb dX5_init_0 rfl (lv_at hl 0 rfl) ?_
  refine W.objInit hx hb hown (hts _ lkX5_init_1) (hts _ lkX5_init_2) (hts _ lkX5_init_0) rfl (by rw [hml]; exact hl.1) rfl dX5_init_1 (Nat.le_of_ble_eq_true rfl) (Nat.le_of_ble_eq_true rfl) ?_
  refine W.eq (g2 := F0 m 4 ls []) rfl ?_
  refine lv_aload_n hx hb dX5_init_4 rfl (lv_at hl 0 rfl) ?_
  refine lv_bipush (v := 8) hx hb dX5_init_5 (by decide) ?_
  obtain ⟨_, h5, hf⟩ := hs_bi hf
  obtain ⟨σ1, h2, hf⟩ := hs_bi hf
  refine hs_newI (mx := 8) hx hb (hts _ lkX5_init_3) hK hB hS hA (by decide) h2 (Nat.le_of_ble_eq_true rfl) (Nat.le_of_ble_eq_true rfl) dX5_init_7 (fun ad3 H g4 hB hS => ?_)
  have hem : ad3 hs_em = X.2.2.1.2.2.2 := (g4 _ (Or.inr rfl)).trans hem
  have hag := hs_agt hag hN0 g4
  have hl : lv_has ls 3 [(0, .ref (ad3 o)), (1, .int a1), (2, .int a2)] := by rw [g4 o (Or.inl (hs_lv_i h5 _ (List.mem_of_getElem? (i := 0) rfl)))]; exact hl
  refine W.eq (g2 := F0 m 9 ls [.ref (ad3 (hs_N σ)), .ref (ad3 o)]) (by rw [g4 o (Or.inl (hs_lv_i h5 _ (List.mem_of_getElem? (i := 0) rfl)))] <;> rfl) ?_
  have hN0 : N0 ≤ hs_N σ1 := by rw [hs_nA_N h2]; exact Nat.le_succ_of_le hN0
  obtain ⟨σ7, h6, hf⟩ := hs_bi hf
  refine x_putRsF hx hb hts inX5_init_X5 tyX5_ok nmX5 hown hK hB hS (by decide) rfl (k := 2) (by decide) rfl h6 (hts _ lkX5_init_4) (fun _ h9 => h9) rfl hnm rfl (ty := .array .int) (by decide +kernel) rfl rfl dX5_init_9 (fun H locs hB hS => ?_)
  have hN0 : N0 ≤ hs_N σ7 := by rw [hs_pR_N h6]; exact hN0
  refine lv_aload_n hx hb dX5_init_12 rfl (lv_at hl 0 rfl) ?_
  refine lv_bipush (v := 101) hx hb dX5_init_13 (by decide) ?_
  obtain ⟨_, h12, hf⟩ := hs_bi hf
  obtain ⟨σ8, h9, hf⟩ := hs_bi hf
  refine hs_newI (mx := 101) hx hb (hts _ lkX5_init_3) hK hB hS hA (by decide) h9 (Nat.le_of_ble_eq_true rfl) (Nat.le_of_ble_eq_true rfl) dX5_init_15 (fun ad10 H g11 hB hS => ?_)
  have hem : ad10 hs_em = X.2.2.1.2.2.2 := (g11 _ (Or.inr rfl)).trans hem
  have hag := hs_agt hag hN0 g11
  have hl : lv_has ls 3 [(0, .ref (ad10 o)), (1, .int a1), (2, .int a2)] := by rw [g11 o (Or.inl (hs_lv_i h12 _ (List.mem_of_getElem? (i := 0) rfl)))]; exact hl
  refine W.eq (g2 := F0 m 17 ls [.ref (ad10 (hs_N σ7)), .ref (ad10 o)]) (by rw [g11 o (Or.inl (hs_lv_i h12 _ (List.mem_of_getElem? (i := 0) rfl)))] <;> rfl) ?_
  have hN0 : N0 ≤ hs_N σ8 := by rw [hs_nA_N h9]; exact Nat.le_succ_of_le hN0
  obtain ⟨σ14, h13, hf⟩ := hs_bi hf
  refine x_putRsF hx hb hts inX5_init_X5 tyX5_ok nmX5 hown hK hB hS (by decide) rfl (k := 3) (by decide) rfl h13 (hts _ lkX5_init_5) (fun _ h9 => h9) rfl hnm rfl (ty := .array .int) (by decide +kernel) rfl rfl dX5_init_17 (fun H locs hB hS => ?_)
  have hN0 : N0 ≤ hs_N σ14 := by rw [hs_pR_N h13]; exact hN0
  refine lv_aload_n hx hb dX5_init_20 rfl (lv_at hl 0 rfl) ?_
  refine lv_sipush (v := 500) hx hb dX5_init_21 (by decide) ?_
  obtain ⟨_, h19, hf⟩ := hs_bi hf
  obtain ⟨σ15, h16, hf⟩ := hs_bi hf
  refine hs_newI (mx := 500) hx hb (hts _ lkX5_init_3) hK hB hS hA (by decide) h16 (Nat.le_of_ble_eq_true rfl) (Nat.le_of_ble_eq_true rfl) dX5_init_24 (fun ad17 H g18 hB hS => ?_)
  have hem : ad17 hs_em = X.2.2.1.2.2.2 := (g18 _ (Or.inr rfl)).trans hem
  have hag := hs_agt hag hN0 g18
  have hl : lv_has ls 3 [(0, .ref (ad17 o)), (1, .int a1), (2, .int a2)] := by rw [g18 o (Or.inl (hs_lv_i h19 _ (List.mem_of_getElem? (i := 0) rfl)))]; exact hl
  refine W.eq (g2 := F0 m 26 ls [.ref (ad17 (hs_N σ14)), .ref (ad17 o)]) (by rw [g18 o (Or.inl (hs_lv_i h19 _ (List.mem_of_getElem? (i := 0) rfl)))] <;> rfl) ?_
  have hN0 : N0 ≤ hs_N σ15 := by rw [hs_nA_N h16]; exact Nat.le_succ_of_le hN0
  obtain ⟨σ21, h20, hf⟩ := hs_bi hf
  refine x_putRsF hx hb hts inX5_init_X5 tyX5_ok nmX5 hown hK hB hS (by decide) rfl (k := 4) (by decide) rfl h20 (hts _ lkX5_init_6) (fun _ h9 => h9) rfl hnm rfl (ty := .array .int) (by decide +kernel) rfl rfl dX5_init_26 (fun H locs hB hS => ?_)
  have hN0 : N0 ≤ hs_N σ21 := by rw [hs_pR_N h20]; exact hN0
  refine lv_aload_n hx hb dX5_init_29 rfl (lv_at hl 0 rfl) ?_
  refine lv_iconst (v := 3) hx hb dX5_init_30 (by decide) ?_
  obtain ⟨_, h26, hf⟩ := hs_bi hf
  obtain ⟨σ22, h23, hf⟩ := hs_bi hf
  refine hs_newI (mx := 3) hx hb (hts _ lkX5_init_3) hK hB hS hA (by decide) h23 (Nat.le_of_ble_eq_true rfl) (Nat.le_of_ble_eq_true rfl) dX5_init_31 (fun ad24 H g25 hB hS => ?_)
  have hem : ad24 hs_em = X.2.2.1.2.2.2 := (g25 _ (Or.inr rfl)).trans hem
  have hag := hs_agt hag hN0 g25
  have hl : lv_has ls 3 [(0, .ref (ad24 o)), (1, .int a1), (2, .int a2)] := by rw [g25 o (Or.inl (hs_lv_i h26 _ (List.mem_of_getElem? (i := 0) rfl)))]; exact hl
  refine W.eq (g2 := F0 m 33 ls [.ref (ad24 (hs_N σ21)), .ref (ad24 o)]) (by rw [g25 o (Or.inl (hs_lv_i h26 _ (List.mem_of_getElem? (i := 0) rfl)))] <;> rfl) ?_
  have hN0 : N0 ≤ hs_N σ22 := by rw [hs_nA_N h23]; exact Nat.le_succ_of_le hN0
  obtain ⟨σ28, h27, hf⟩ := hs_bi hf
  refine x_putRsF hx hb hts inX5_init_X5 tyX5_ok nmX5 hown hK hB hS (by decide) rfl (k := 5) (by decide) rfl h27 (hts _ lkX5_init_7) (fun _ h9 => h9) rfl hnm rfl (ty := .array .int) (by decide +kernel) rfl rfl dX5_init_33 (fun H locs hB hS => ?_)
  have hN0 : N0 ≤ hs_N σ28 := by rw [hs_pR_N h27]; exact hN0
  refine lv_aload_n hx hb dX5_init_36 rfl (lv_at hl 0 rfl) ?_
  refine lv_iconst (v := 3) hx hb dX5_init_37 (by decide) ?_
  obtain ⟨_, h33, hf⟩ := hs_bi hf
  obtain ⟨σ29, h30, hf⟩ := hs_bi hf
  refine hs_newI (mx := 3) hx hb (hts _ lkX5_init_3) hK hB hS hA (by decide) h30 (Nat.le_of_ble_eq_true rfl) (Nat.le_of_ble_eq_true rfl) dX5_init_38 (fun ad31 H g32 hB hS => ?_)
  have hem : ad31 hs_em = X.2.2.1.2.2.2 := (g32 _ (Or.inr rfl)).trans hem
  have hag := hs_agt hag hN0 g32
  have hl : lv_has ls 3 [(0, .ref (ad31 o)), (1, .int a1), (2, .int a2)] := by rw [g32 o (Or.inl (hs_lv_i h33 _ (List.mem_of_getElem? (i := 0) rfl)))]; exact hl
  refine W.eq (g2 := F0 m 40 ls [.ref (ad31 (hs_N σ28)), .ref (ad31 o)]) (by rw [g32 o (Or.inl (hs_lv_i h33 _ (List.mem_of_getElem? (i := 0) rfl)))] <;> rfl) ?_
  have hN0 : N0 ≤ hs_N σ29 := by rw [hs_nA_N h30]; exact Nat.le_succ_of_le hN0
  obtain ⟨σ35, h34, hf⟩ := hs_bi hf
  refine x_putRsF hx hb hts inX5_init_X5 tyX5_ok nmX5 hown hK hB hS (by decide) rfl (k := 6) (by decide) rfl h34 (hts _ lkX5_init_8) (fun _ h9 => h9) rfl hnm rfl (ty := .array .int) (by decide +kernel) rfl rfl dX5_init_40 (fun H locs hB hS => ?_)
  have hN0 : N0 ≤ hs_N σ35 := by rw [hs_pR_N h34]; exact hN0
  refine lv_aload_n hx hb dX5_init_43 rfl (lv_at hl 0 rfl) ?_
  refine lv_iconst (v := 3) hx hb dX5_init_44 (by decide) ?_
  obtain ⟨_, h40, hf⟩ := hs_bi hf
  obtain ⟨σ36, h37, hf⟩ := hs_bi hf
  refine hs_newI (mx := 3) hx hb (hts _ lkX5_init_3) hK hB hS hA (by decide) h37 (Nat.le_of_ble_eq_true rfl) (Nat.le_of_ble_eq_true rfl) dX5_init_45 (fun ad38 H g39 hB hS => ?_)
  have hem : ad38 hs_em = X.2.2.1.2.2.2 := (g39 _ (Or.inr rfl)).trans hem
  have hag := hs_agt hag hN0 g39
  have hl : lv_has ls 3 [(0, .ref (ad38 o)), (1, .int a1), (2, .int a2)] := by rw [g39 o (Or.inl (hs_lv_i h40 _ (List.mem_of_getElem? (i := 0) rfl)))]; exact hl
  refine W.eq (g2 := F0 m 47 ls [.ref (ad38 (hs_N σ35)), .ref (ad38 o)]) (by rw [g39 o (Or.inl (hs_lv_i h40 _ (List.mem_of_getElem? (i := 0) rfl)))] <;> rfl) ?_
  have hN0 : N0 ≤ hs_N σ36 := by rw [hs_nA_N h37]; exact Nat.le_succ_of_le hN0
  obtain ⟨σ42, h41, hf⟩ := hs_bi hf
  refine x_putRsF hx hb hts inX5_init_X5 tyX5_ok nmX5 hown hK hB hS (by decide) rfl (k := 7) (by decide) rfl h41 (hts _ lkX5_init_9) (fun _ h9 => h9) rfl hnm rfl (ty := .array .int) (by decide +kernel) rfl rfl dX5_init_47 (fun H locs hB hS => ?_)
  have hN0 : N0 ≤ hs_N σ42 := by rw [hs_pR_N h41]; exact hN0
  refine lv_aload_n hx hb dX5_init_50 rfl (lv_at hl 0 rfl) ?_
  refine lv_iconst (v := 3) hx hb dX5_init_51 (by decide) ?_
  obtain ⟨_, h47, hf⟩ := hs_bi hf
  obtain ⟨σ43, h44, hf⟩ := hs_bi hf
  refine hs_newI (mx := 3) hx hb (hts _ lkX5_init_3) hK hB hS hA (by decide) h44 (Nat.le_of_ble_eq_true rfl) (Nat.le_of_ble_eq_true rfl) dX5_init_52 (fun ad45 H g46 hB hS => ?_)
  have hem : ad45 hs_em = X.2.2.1.2.2.2 := (g46 _ (Or.inr rfl)).trans hem
  have hag := hs_agt hag hN0 g46
  have hl : lv_has ls 3 [(0, .ref (ad45 o)), (1, .int a1), (2, .int a2)] := by rw [g46 o (Or.inl (hs_lv_i h47 _ (List.mem_of_getElem? (i := 0) rfl)))]; exact hl
  refine W.eq (g2 := F0 m 54 ls [.ref (ad45 (hs_N σ42)), .ref (ad45 o)]) (by rw [g46 o (Or.inl (hs_lv_i h47 _ (List.mem_of_getElem? (i := 0) rfl)))] <;> rfl) ?_
  have hN0 : N0 ≤ hs_N σ43 := by rw [hs_nA_N h44]; exact Nat.le_succ_of_le hN0
  obtain ⟨σ49, h48, hf⟩ := hs_bi hf
  refine x_putRsF hx hb hts inX5_init_X5 tyX5_ok nmX5 hown hK hB hS (by decide) rfl (k := 8) (by decide) rfl h48 (hts _ lkX5_init_10) (fun _ h9 => h9) rfl hnm rfl (ty := .array .int) (by decide +kernel) rfl rfl dX5_init_54 (fun H locs hB hS => ?_)
  have hN0 : N0 ≤ hs_N σ49 := by rw [hs_pR_N h48]; exact hN0
  refine lv_aload_n hx hb dX5_init_57 rfl (lv_at hl 0 rfl) ?_
  refine lv_iload_n hx hb dX5_init_58 rfl (lv_at hl 1 rfl) ?_
  obtain ⟨σ51, h50, hf⟩ := hs_bi hf
  refine x_putIF hx hb hts inX5_init_X5 tyX5_ok nmX5 hown hK hB hS (by decide) rfl (k := 0) (by decide) rfl h50 (hts _ lkX5_init_11) (fun _ h9 => h9) rfl hnm rfl (by decide +kernel) dX5_init_59 (fun H locs hB hS => ?_)
  have hN0 : N0 ≤ hs_N σ51 := by rw [hs_pI_N h50]; exact hN0
  refine lv_aload_n hx hb dX5_init_62 rfl (lv_at hl 0 rfl) ?_
  refine lv_iload_n hx hb dX5_init_63 rfl (lv_at hl 2 rfl) ?_
  obtain ⟨σ53, h52, hf⟩ := hs_bi hf
  refine x_putIF hx hb hts inX5_init_X5 tyX5_ok nmX5 hown hK hB hS (by decide) rfl (k := 1) (by decide) rfl h52 (hts _ lkX5_init_12) (fun _ h9 => h9) rfl hnm rfl (by decide +kernel) dX5_init_64 (fun H locs hB hS => ?_)
  have hN0 : N0 ≤ hs_N σ53 := by rw [hs_pI_N h52]; exact hN0
  obtain ⟨rfl, rfl⟩ := hs_ri hf
  refine W.widen (k := 7) (n := 621) (Nat.le_of_ble_eq_true rfl) (Nat.le_of_ble_eq_true rfl) ?_
  exact hs_vret1 hx hb hr hlk hag hB hS dX5_init_67
end SX5_init
set_option maxRecDepth 100000 in
theorem ctX5_init (l : Launch) (fu : Nat) (σ : hs_T) (o : Nat) (a1 : Int32) (a2 : Int32) : hs_C1 hs_tvv l yX5_init wsX5_init rmX5_init 7 621 (fun ad => [.ref (ad o), .int a1, .int a2]) σ (fX5_init fu σ o a1 a2) := by
  intro X ad sz r τ hf
  refine hs_enter (cc := cX5_init) (maxL := 3) (ret := none) (by decide) rfl (Nat.le_of_ble_eq_true rfl) ?_
  intro p e s m below meth c ls C hl hem hB hS hsz
  exact wX5_init_e fu C hem σ o a1 a2 hf hB hS hl rfl
/-! ServiceGame$Tape.<init>()V -/
abbrev rmX6_init : Room := { frames := 1, cells := 1, slots := 120, locals := 12 }
theorem inX6_init_X6 : ∀ w ∈ wsX60, w ∈ wsX6_init := fun _ h => List.mem_cons_of_mem _ (List.mem_append_right _ h)
theorem lkX6_init_0 : Cond.code objectInit ⟨#[0xb1]⟩ 1 none ∈ wsX6_init := by decide +kernel
theorem lkX6_init_1 : Cond.methodLink RX6 3 objectInit ∈ wsX6_init := by decide +kernel
theorem lkX6_init_2 : Cond.instanceMethod objectInit ∈ wsX6_init := by decide +kernel
theorem lkX6_init_3 : Cond.arrayClass .int ∈ wsX6_init := by decide +kernel
theorem lkX6_init_4 : Cond.fieldLink RX6 9 "ServiceGame$Tape" "bytes" "[I" ∈ wsX6_init := by decide +kernel
def fX6_init (fu : Nat) (σ : hs_T) (o : Nat) : Option (Unit × hs_T) :=
 (hs_lv σ [o]).bind fun _ =>
 (hs_nA σ 11 120 120).bind fun σ1 =>
 (hs_pR σ1 8 o 0 (some (hs_N σ))).bind fun σ7 =>
 some ((), σ7)
section SX6_init
variable {p : Program} {l : Launch} {e : Env} {s : State} {m : MethodId} {args : Array Value} {below : List Frame} {meth : Method} {c : Code} {X : hs_X} {ad : Nat → Nat} {A : Nat → Prop} {r : Unit} {τ : hs_T} {N0 : Nat}
set_option maxRecDepth 100000 in
set_option maxHeartbeats 4000000 in
theorem wX6_init_e (fu : Nat) (C : hs_Cx p s m args meth c X A yX6_init cX6_init 1 none wsX6_init) (hem : ad hs_em = X.2.2.1.2.2.2) {H : Heap} {locs : List Loc} {ls : Array Slot} (σ : hs_T) (o : Nat) (hf : fX6_init fu σ o = some (r, τ)) (hB : hs_H X.1 X.2.1 ad A σ H) (hS : va_S A s.heap H locs) (hl : lv_has ls 1 [(0, .ref (ad o))]) (hN : N0 = hs_N σ) : W p l e rmX6_init s m args below meth c H locs 0 0 (MQ below (hs_Q1 hs_tvv X ad N0 A r τ) args s 1 120 A) (F0 m 0 ls []) := by
  obtain ⟨hx, hb, hml, hr, hts, hown, hlk, hnm, hV, hA0, hA⟩ := id C
  have hown : s.vm.findClass RX6 = some m.cls := hown
  have hK := hV.1
  have hNw := hV.2.1
  unfold fX6_init at hf
  have hag : hs_Ag N0 ad ad := fun _ _ => rfl
  have hN0 : N0 ≤ hs_N σ := Nat.le_of_eq hN
  refine lv_aload_n hx hb dX6_init_0 rfl (lv_at hl 0 rfl) ?_
  refine W.objInit hx hb hown (hts _ lkX6_init_1) (hts _ lkX6_init_2) (hts _ lkX6_init_0) rfl (by rw [hml]; exact hl.1) rfl dX6_init_1 (Nat.le_of_ble_eq_true rfl) (Nat.le_of_ble_eq_true rfl) ?_
  refine W.eq (g2 := F0 m 4 ls []) rfl ?_
  refine lv_aload_n hx hb dX6_init_4 rfl (lv_at hl 0 rfl) ?_
  refine lv_bipush (v := 120) hx hb dX6_init_5 (by decide) ?_
  have hl := lv_sub hl [] (l' := []) rfl
  obtain ⟨_, h5, hf⟩ := hs_bi hf
  obtain ⟨σ1, h2, hf⟩ := hs_bi hf
  refine hs_newI (mx := 120) hx hb (hts _ lkX6_init_3) hK hB hS hA (by decide) h2 (Nat.le_of_ble_eq_true rfl) (Nat.le_of_ble_eq_true rfl) dX6_init_7 (fun ad3 H g4 hB hS => ?_)
  have hem : ad3 hs_em = X.2.2.1.2.2.2 := (g4 _ (Or.inr rfl)).trans hem
  have hag := hs_agt hag hN0 g4
  refine W.eq (g2 := F0 m 9 ls [.ref (ad3 (hs_N σ)), .ref (ad3 o)]) (by rw [g4 o (Or.inl (hs_lv_i h5 _ (List.mem_of_getElem? (i := 0) rfl)))] <;> rfl) ?_
  have hN0 : N0 ≤ hs_N σ1 := by rw [hs_nA_N h2]; exact Nat.le_succ_of_le hN0
  obtain ⟨σ7, h6, hf⟩ := hs_bi hf
  refine x_putRsF hx hb hts inX6_init_X6 tyX6_ok nmX6 hown hK hB hS (by decide) rfl (k := 0) (by decide) rfl h6 (hts _ lkX6_init_4) (fun _ h9 => h9) rfl hnm rfl (ty := .array .int) (by decide +kernel) rfl rfl dX6_init_9 (fun H locs hB hS => ?_)
  have hN0 : N0 ≤ hs_N σ7 := by rw [hs_pR_N h6]; exact hN0
  obtain ⟨rfl, rfl⟩ := hs_ri hf
  refine W.widen (k := 1) (n := 120) (Nat.le_of_ble_eq_true rfl) (Nat.le_of_ble_eq_true rfl) ?_
  exact hs_vret1 hx hb hr hlk hag hB hS dX6_init_12
end SX6_init
set_option maxRecDepth 100000 in
theorem ctX6_init (l : Launch) (fu : Nat) (σ : hs_T) (o : Nat) : hs_C1 hs_tvv l yX6_init wsX6_init rmX6_init 1 120 (fun ad => [.ref (ad o)]) σ (fX6_init fu σ o) := by
  intro X ad sz r τ hf
  refine hs_enter (cc := cX6_init) (maxL := 1) (ret := none) (by decide) rfl (Nat.le_of_ble_eq_true rfl) ?_
  intro p e s m below meth c ls C hl hem hB hS hsz
  exact wX6_init_e fu C hem σ o hf hB hS hl rfl
/-! ServiceGame$Reader.program()LServiceGame$Program; -/
abbrev rmX4_program : Room := { frames := 2, cells := 3, slots := 51, locals := 41 }
theorem inX4_program_X3 : ∀ w ∈ wsX30, w ∈ wsX4_program := fun _ h => List.mem_cons_of_mem _ (List.mem_append_left _ (List.mem_append_right _ h))
theorem inX4_program_X4 : ∀ w ∈ wsX40, w ∈ wsX4_program := fun _ h => List.mem_cons_of_mem _ (List.mem_append_right _ h)
theorem lkX4_program_0 : Cond.classLink RX4 51 RX3 ∈ wsX4_program := by decide +kernel
theorem lkX4_program_1 : Cond.instantiable RX3 3 ∈ wsX4_program := by decide +kernel
theorem lkX4_program_2 : Cond.initialized RX3 ∈ wsX4_program := by decide +kernel
theorem lkX4_program_3 : Cond.fieldLink RX4 9 "ServiceGame$Reader" "signs" "[I" ∈ wsX4_program := by decide +kernel
theorem lkX4_program_4 : Cond.fieldLink RX4 15 "ServiceGame$Reader" "numbers" "[I" ∈ wsX4_program := by decide +kernel
theorem lkX4_program_5 : Cond.fieldLink RX4 22 "ServiceGame$Reader" "size" "I" ∈ wsX4_program := by decide +kernel
theorem lkX4_program_6 : Cond.instanceMethod yX3_init ∈ wsX4_program := by decide +kernel
def fX4_program (fu : Nat) (σ : hs_T) (o : Nat) : Option (Option Nat × hs_T) :=
 (hs_lv σ [o]).bind fun _ =>
 (hs_nO σ 5).bind fun σ1 =>
 (hs_gN σ1 6 o 0).bind fun n7 =>
 (hs_gN σ1 6 o 1).bind fun n9 =>
 (hs_gI σ1 6 o 2).bind fun v11 =>
 (hs_ck σ1 5 (hs_N σ)).bind fun _ =>
 (hs_lv σ1 [(hs_N σ)]).bind fun _ =>
 hs_b2 (fX3_init fu σ1 (hs_N σ) n7 n9 v11) fun _ σ13 =>
 (hs_le (hs_N σ1) (hs_N σ13)).bind fun _ =>
 some ((some (hs_N σ)), σ13)
section SX4_program
variable {p : Program} {l : Launch} {e : Env} {s : State} {m : MethodId} {args : Array Value} {below : List Frame} {meth : Method} {c : Code} {X : hs_X} {ad : Nat → Nat} {A : Nat → Prop} {r : Option Nat} {τ : hs_T} {N0 : Nat}
set_option maxRecDepth 100000 in
set_option maxHeartbeats 4000000 in
theorem wX4_program_e (fu : Nat) (C : hs_Cx p s m args meth c X A yX4_program cX4_program 1 (some (.object "ServiceGame$Program")) wsX4_program) (hem : ad hs_em = X.2.2.1.2.2.2) {H : Heap} {locs : List Loc} {ls : Array Slot} (σ : hs_T) (o : Nat) (hf : fX4_program fu σ o = some (r, τ)) (hB : hs_H X.1 X.2.1 ad A σ H) (hS : va_S A s.heap H locs) (hl : lv_has ls 1 [(0, .ref (ad o))]) (hN : N0 = hs_N σ) : W p l e rmX4_program s m args below meth c H locs 0 0 (MQ below (hs_Q1 hs_tvr X ad N0 A r τ) args s 3 51 A) (F0 m 0 ls []) := by
  obtain ⟨hx, hb, hml, hr, hts, hown, hlk, hnm, hV, hA0, hA⟩ := id C
  have hown : s.vm.findClass RX4 = some m.cls := hown
  have hK := hV.1
  have hNw := hV.2.1
  unfold fX4_program at hf
  have hag : hs_Ag N0 ad ad := fun _ _ => rfl
  have hN0 : N0 ≤ hs_N σ := Nat.le_of_eq hN
  obtain ⟨_, h5, hf⟩ := hs_bi hf
  obtain ⟨σ1, h2, hf⟩ := hs_bi hf
  refine hs_new hx hb hts inX4_program_X3 tyX3_ok hown (hts _ lkX4_program_0) (hts _ lkX4_program_1) (hts _ lkX4_program_2) hK hB hS hA (by decide) rfl (hs_df5 _) h2 (Nat.le_of_ble_eq_true rfl) (Nat.le_of_ble_eq_true rfl) dX4_program_0 (fun ad3 H g4 hB hS => ?_)
  have hem : ad3 hs_em = X.2.2.1.2.2.2 := (g4 _ (Or.inr rfl)).trans hem
  have hag := hs_agt hag hN0 g4
  have hl : lv_has ls 1 [(0, .ref (ad3 o))] := by rw [g4 o (Or.inl (hs_lv_i h5 _ (List.mem_of_getElem? (i := 0) rfl)))]; exact hl
  refine W.eq (g2 := F0 m 3 ls [.ref (ad3 (hs_N σ))]) rfl ?_
  have hN0 : N0 ≤ hs_N σ1 := by rw [hs_nO_N h2]; exact Nat.le_succ_of_le hN0
  refine lv_dup hx hb dX4_program_3 rfl ?_
  refine lv_aload_n hx hb dX4_program_4 rfl (lv_at hl 0 rfl) ?_
  obtain ⟨n7, h6, hf⟩ := hs_bi hf
  refine x_getN hx hb hts inX4_program_X4 hown hK hB (by decide) rfl (k := 0) (by decide) rfl h6 (hts _ lkX4_program_3) (fun _ h9 => h9) dX4_program_5 ?_
  refine lv_aload_n hx hb dX4_program_8 rfl (lv_at hl 0 rfl) ?_
  obtain ⟨n9, h8, hf⟩ := hs_bi hf
  refine x_getN hx hb hts inX4_program_X4 hown hK hB (by decide) rfl (k := 1) (by decide) rfl h8 (hts _ lkX4_program_4) (fun _ h9 => h9) dX4_program_9 ?_
  refine lv_aload_n hx hb dX4_program_12 rfl (lv_at hl 0 rfl) ?_
  obtain ⟨v11, h10, hf⟩ := hs_bi hf
  refine x_getI hx hb hts inX4_program_X4 hown hK hB (by decide) rfl (k := 2) (by decide) rfl h10 (hts _ lkX4_program_5) (fun _ h9 => h9) dX4_program_13 ?_
  obtain ⟨_, h14, hf⟩ := hs_bi hf
  have hl := lv_sub hl [] (l' := []) rfl
  obtain ⟨_, h17, hf⟩ := hs_bi hf
  obtain ⟨_, σ13, h12, hf⟩ := hs_b2i hf
  obtain ⟨_, h15, hf⟩ := hs_bi hf
  refine hs_call1 (va_runIN (As := [.ref (ad3 n7), .ref (ad3 n9), .int v11]) (rest := [.ref (ad3 (hs_N σ))]) ⟨hx, hb, hml, hown, hts⟩ (ctX3_init l fu σ1 (hs_N σ) n7 n9 v11 X ad3 H.size _ _ h12) ⟨va_cnB 3 hts gX4_program_X3_init_n53 rfl rfl rfl (hNw (.methodLinkNest "ServiceGame$Reader" 53 yX3_init "ServiceGame") (by decide +kernel)) (hts _ lkX4_program_2) (by decide +kernel) ⟨Nat.le_of_ble_eq_true rfl, Nat.le_of_ble_eq_true rfl⟩, rfl, (hts _ lkX4_program_6)⟩ (hs_pre hV hB hS hA0 hA hem) rfl rfl hl.1 rfl (lv_room (Nat.le_of_ble_eq_true rfl)) dX4_program_16 ⟨Nat.le_of_ble_eq_true rfl, Nat.le_of_ble_eq_true rfl⟩) hB hS hA (fun ad18 H locs g19 hB hS => ?_)
  have hem : ad18 hs_em = X.2.2.1.2.2.2 := (g19 _ (Or.inr rfl)).trans hem
  have hag := hs_agt hag hN0 g19
  refine W.eq (g2 := F0 m 19 ls [.ref (ad18 (hs_N σ))]) (by rw [g19 (hs_N σ) (Or.inl (hs_lv_i h17 _ (List.mem_of_getElem? (i := 0) rfl)))] <;> rfl) ?_
  have hN0 : N0 ≤ hs_N σ13 := Nat.le_trans hN0 (hs_le_i h15)
  obtain ⟨rfl, rfl⟩ := hs_ri hf
  refine W.widen (k := 3) (n := 51) (Nat.le_of_ble_eq_true rfl) (Nat.le_of_ble_eq_true rfl) ?_
  exact hs_aret1 hx hb hr (Or.inl ⟨_, rfl⟩) hlk (some (hs_N σ)) rfl hag hB hS dX4_program_19
end SX4_program
set_option maxRecDepth 100000 in
theorem ctX4_program (l : Launch) (fu : Nat) (σ : hs_T) (o : Nat) : hs_C1 hs_tvr l yX4_program wsX4_program rmX4_program 3 51 (fun ad => [.ref (ad o)]) σ (fX4_program fu σ o) := by
  intro X ad sz r τ hf
  refine hs_enter (cc := cX4_program) (maxL := 1) (ret := (some (.object "ServiceGame$Program"))) (by decide) rfl (Nat.le_of_ble_eq_true rfl) ?_
  intro p e s m below meth c ls C hl hem hB hS hsz
  exact wX4_program_e fu C hem σ o hf hB hS hl rfl
/-! ServiceGameModel.<init>()V -/
abbrev rmX8_init : Room := { frames := 1, cells := 31, slots := 13460, locals := 12 }
theorem inX8_init_X8 : ∀ w ∈ wsX80, w ∈ wsX8_init := fun _ h => List.mem_cons_of_mem _ (List.mem_append_right _ h)
theorem lkX8_init_0 : Cond.code objectInit ⟨#[0xb1]⟩ 1 none ∈ wsX8_init := by decide +kernel
theorem lkX8_init_1 : Cond.methodLink RX8 1 objectInit ∈ wsX8_init := by decide +kernel
theorem lkX8_init_2 : Cond.instanceMethod objectInit ∈ wsX8_init := by decide +kernel
theorem lkX8_init_3 : Cond.arrayClass .int ∈ wsX8_init := by decide +kernel
theorem lkX8_init_4 : Cond.fieldLink RX8 7 "ServiceGameModel" "tape" "[I" ∈ wsX8_init := by decide +kernel
theorem lkX8_init_5 : Cond.fieldLink RX8 13 "ServiceGameModel" "step" "[I" ∈ wsX8_init := by decide +kernel
theorem lkX8_init_6 : Cond.fieldLink RX8 16 "ServiceGameModel" "number" "[I" ∈ wsX8_init := by decide +kernel
theorem lkX8_init_7 : Cond.fieldLink RX8 19 "ServiceGameModel" "size" "[I" ∈ wsX8_init := by decide +kernel
theorem lkX8_init_8 : Cond.arrayClass .boolean ∈ wsX8_init := by decide +kernel
theorem lkX8_init_9 : Cond.fieldLink RX8 22 "ServiceGameModel" "waits" "[Z" ∈ wsX8_init := by decide +kernel
theorem lkX8_init_10 : Cond.fieldLink RX8 26 "ServiceGameModel" "readStep" "[I" ∈ wsX8_init := by decide +kernel
theorem lkX8_init_11 : Cond.fieldLink RX8 29 "ServiceGameModel" "readNumber" "[I" ∈ wsX8_init := by decide +kernel
theorem lkX8_init_12 : Cond.fieldLink RX8 32 "ServiceGameModel" "cell" "[I" ∈ wsX8_init := by decide +kernel
theorem lkX8_init_13 : Cond.fieldLink RX8 35 "ServiceGameModel" "kept" "[I" ∈ wsX8_init := by decide +kernel
theorem lkX8_init_14 : Cond.fieldLink RX8 38 "ServiceGameModel" "brokeMany" "[I" ∈ wsX8_init := by decide +kernel
theorem lkX8_init_15 : Cond.fieldLink RX8 41 "ServiceGameModel" "fuelMany" "[I" ∈ wsX8_init := by decide +kernel
theorem lkX8_init_16 : Cond.fieldLink RX8 44 "ServiceGameModel" "upMany" "[I" ∈ wsX8_init := by decide +kernel
theorem lkX8_init_17 : Cond.fieldLink RX8 47 "ServiceGameModel" "set" "[I" ∈ wsX8_init := by decide +kernel
theorem lkX8_init_18 : Cond.fieldLink RX8 50 "ServiceGameModel" "pile" "[I" ∈ wsX8_init := by decide +kernel
theorem lkX8_init_19 : Cond.fieldLink RX8 53 "ServiceGameModel" "letterTo" "[I" ∈ wsX8_init := by decide +kernel
theorem lkX8_init_20 : Cond.fieldLink RX8 56 "ServiceGameModel" "letterA" "[I" ∈ wsX8_init := by decide +kernel
theorem lkX8_init_21 : Cond.fieldLink RX8 59 "ServiceGameModel" "letterB" "[I" ∈ wsX8_init := by decide +kernel
theorem lkX8_init_22 : Cond.fieldLink RX8 62 "ServiceGameModel" "aheadTo" "[I" ∈ wsX8_init := by decide +kernel
theorem lkX8_init_23 : Cond.fieldLink RX8 65 "ServiceGameModel" "aheadA" "[I" ∈ wsX8_init := by decide +kernel
theorem lkX8_init_24 : Cond.fieldLink RX8 68 "ServiceGameModel" "aheadB" "[I" ∈ wsX8_init := by decide +kernel
theorem lkX8_init_25 : Cond.fieldLink RX8 71 "ServiceGameModel" "isUp" "[Z" ∈ wsX8_init := by decide +kernel
theorem lkX8_init_26 : Cond.fieldLink RX8 74 "ServiceGameModel" "which" "[I" ∈ wsX8_init := by decide +kernel
theorem lkX8_init_27 : Cond.fieldLink RX8 77 "ServiceGameModel" "second" "[I" ∈ wsX8_init := by decide +kernel
theorem lkX8_init_28 : Cond.fieldLink RX8 80 "ServiceGameModel" "answer" "[I" ∈ wsX8_init := by decide +kernel
theorem lkX8_init_29 : Cond.fieldLink RX8 83 "ServiceGameModel" "good" "[I" ∈ wsX8_init := by decide +kernel
theorem lkX8_init_30 : Cond.fieldLink RX8 86 "ServiceGameModel" "order" "[I" ∈ wsX8_init := by decide +kernel
theorem lkX8_init_31 : Cond.fieldLink RX8 89 "ServiceGameModel" "handedIn" "[I" ∈ wsX8_init := by decide +kernel
theorem lkX8_init_32 : Cond.fieldLink RX8 92 "ServiceGameModel" "pointsUp" "[I" ∈ wsX8_init := by decide +kernel
theorem lkX8_init_33 : Cond.fieldLink RX8 95 "ServiceGameModel" "pointsStolen" "[I" ∈ wsX8_init := by decide +kernel
theorem lkX8_init_34 : Cond.fieldLink RX8 98 "ServiceGameModel" "pointsOff" "[I" ∈ wsX8_init := by decide +kernel
theorem lkX8_init_35 : Cond.fieldLink RX8 101 "ServiceGameModel" "flags" "[I" ∈ wsX8_init := by decide +kernel
def fX8_init (fu : Nat) (σ : hs_T) (o : Nat) : Option (Unit × hs_T) :=
 (hs_lv σ [o]).bind fun _ =>
 (hs_nA σ 11 120 120).bind fun σ1 =>
 (hs_pR σ1 10 o 2 (some (hs_N σ))).bind fun σ7 =>
 (hs_lv σ7 [o]).bind fun _ =>
 (hs_nA σ7 11 720 720).bind fun σ8 =>
 (hs_pR σ8 10 o 3 (some (hs_N σ7))).bind fun σ14 =>
 (hs_lv σ14 [o]).bind fun _ =>
 (hs_nA σ14 11 720 720).bind fun σ15 =>
 (hs_pR σ15 10 o 4 (some (hs_N σ14))).bind fun σ21 =>
 (hs_lv σ21 [o]).bind fun _ =>
 (hs_nA σ21 11 30 30).bind fun σ22 =>
 (hs_pR σ22 10 o 5 (some (hs_N σ21))).bind fun σ28 =>
 (hs_lv σ28 [o]).bind fun _ =>
 (hs_nA σ28 12 15 15).bind fun σ29 =>
 (hs_pR σ29 10 o 6 (some (hs_N σ28))).bind fun σ35 =>
 (hs_lv σ35 [o]).bind fun _ =>
 (hs_nA σ35 11 24 24).bind fun σ36 =>
 (hs_pR σ36 10 o 9 (some (hs_N σ35))).bind fun σ42 =>
 (hs_lv σ42 [o]).bind fun _ =>
 (hs_nA σ42 11 24 24).bind fun σ43 =>
 (hs_pR σ43 10 o 10 (some (hs_N σ42))).bind fun σ49 =>
 (hs_lv σ49 [o]).bind fun _ =>
 (hs_nA σ49 11 120 120).bind fun σ50 =>
 (hs_pR σ50 10 o 12 (some (hs_N σ49))).bind fun σ56 =>
 (hs_lv σ56 [o]).bind fun _ =>
 (hs_nA σ56 11 8 8).bind fun σ57 =>
 (hs_pR σ57 10 o 13 (some (hs_N σ56))).bind fun σ63 =>
 (hs_lv σ63 [o]).bind fun _ =>
 (hs_nA σ63 11 15 15).bind fun σ64 =>
 (hs_pR σ64 10 o 14 (some (hs_N σ63))).bind fun σ70 =>
 (hs_lv σ70 [o]).bind fun _ =>
 (hs_nA σ70 11 15 15).bind fun σ71 =>
 (hs_pR σ71 10 o 15 (some (hs_N σ70))).bind fun σ77 =>
 (hs_lv σ77 [o]).bind fun _ =>
 (hs_nA σ77 11 15 15).bind fun σ78 =>
 (hs_pR σ78 10 o 16 (some (hs_N σ77))).bind fun σ84 =>
 (hs_lv σ84 [o]).bind fun _ =>
 (hs_nA σ84 11 7 7).bind fun σ85 =>
 (hs_pR σ85 10 o 17 (some (hs_N σ84))).bind fun σ91 =>
 (hs_lv σ91 [o]).bind fun _ =>
 (hs_nA σ91 11 9 9).bind fun σ92 =>
 (hs_pR σ92 10 o 18 (some (hs_N σ91))).bind fun σ98 =>
 (hs_lv σ98 [o]).bind fun _ =>
 (hs_nA σ98 11 400 400).bind fun σ99 =>
 (hs_pR σ99 10 o 22 (some (hs_N σ98))).bind fun σ105 =>
 (hs_lv σ105 [o]).bind fun _ =>
 (hs_nA σ105 11 400 400).bind fun σ106 =>
 (hs_pR σ106 10 o 23 (some (hs_N σ105))).bind fun σ112 =>
 (hs_lv σ112 [o]).bind fun _ =>
 (hs_nA σ112 11 400 400).bind fun σ113 =>
 (hs_pR σ113 10 o 24 (some (hs_N σ112))).bind fun σ119 =>
 (hs_lv σ119 [o]).bind fun _ =>
 (hs_nA σ119 11 400 400).bind fun σ120 =>
 (hs_pR σ120 10 o 25 (some (hs_N σ119))).bind fun σ126 =>
 (hs_lv σ126 [o]).bind fun _ =>
 (hs_nA σ126 11 400 400).bind fun σ127 =>
 (hs_pR σ127 10 o 26 (some (hs_N σ126))).bind fun σ133 =>
 (hs_lv σ133 [o]).bind fun _ =>
 (hs_nA σ133 11 400 400).bind fun σ134 =>
 (hs_pR σ134 10 o 27 (some (hs_N σ133))).bind fun σ140 =>
 (hs_lv σ140 [o]).bind fun _ =>
 (hs_nA σ140 12 1500 1500).bind fun σ141 =>
 (hs_pR σ141 10 o 31 (some (hs_N σ140))).bind fun σ147 =>
 (hs_lv σ147 [o]).bind fun _ =>
 (hs_nA σ147 11 45 45).bind fun σ148 =>
 (hs_pR σ148 10 o 32 (some (hs_N σ147))).bind fun σ154 =>
 (hs_lv σ154 [o]).bind fun _ =>
 (hs_nA σ154 11 45 45).bind fun σ155 =>
 (hs_pR σ155 10 o 33 (some (hs_N σ154))).bind fun σ161 =>
 (hs_lv σ161 [o]).bind fun _ =>
 (hs_nA σ161 11 45 45).bind fun σ162 =>
 (hs_pR σ162 10 o 34 (some (hs_N σ161))).bind fun σ168 =>
 (hs_lv σ168 [o]).bind fun _ =>
 (hs_nA σ168 11 45 45).bind fun σ169 =>
 (hs_pR σ169 10 o 35 (some (hs_N σ168))).bind fun σ175 =>
 (hs_lv σ175 [o]).bind fun _ =>
 (hs_nA σ175 11 18 18).bind fun σ176 =>
 (hs_st σ176 11 (hs_N σ175) 0 0).bind fun σ181 =>
 (hs_st σ181 11 (hs_N σ175) 1 1).bind fun σ183 =>
 (hs_st σ183 11 (hs_N σ175) 2 2).bind fun σ185 =>
 (hs_st σ185 11 (hs_N σ175) 3 0).bind fun σ187 =>
 (hs_st σ187 11 (hs_N σ175) 4 2).bind fun σ189 =>
 (hs_st σ189 11 (hs_N σ175) 5 1).bind fun σ191 =>
 (hs_st σ191 11 (hs_N σ175) 6 1).bind fun σ193 =>
 (hs_st σ193 11 (hs_N σ175) 7 0).bind fun σ195 =>
 (hs_st σ195 11 (hs_N σ175) 8 2).bind fun σ197 =>
 (hs_st σ197 11 (hs_N σ175) 9 1).bind fun σ199 =>
 (hs_st σ199 11 (hs_N σ175) 10 2).bind fun σ201 =>
 (hs_st σ201 11 (hs_N σ175) 11 0).bind fun σ203 =>
 (hs_st σ203 11 (hs_N σ175) 12 2).bind fun σ205 =>
 (hs_st σ205 11 (hs_N σ175) 13 0).bind fun σ207 =>
 (hs_st σ207 11 (hs_N σ175) 14 1).bind fun σ209 =>
 (hs_st σ209 11 (hs_N σ175) 15 2).bind fun σ211 =>
 (hs_st σ211 11 (hs_N σ175) 16 1).bind fun σ213 =>
 (hs_st σ213 11 (hs_N σ175) 17 0).bind fun σ215 =>
 (hs_pR σ215 10 o 36 (some (hs_N σ175))).bind fun σ218 =>
 (hs_lv σ218 [o]).bind fun _ =>
 (hs_nA σ218 11 7500 7500).bind fun σ219 =>
 (hs_pR σ219 10 o 37 (some (hs_N σ218))).bind fun σ225 =>
 (hs_lv σ225 [o]).bind fun _ =>
 (hs_nA σ225 11 5 5).bind fun σ226 =>
 (hs_pR σ226 10 o 39 (some (hs_N σ225))).bind fun σ232 =>
 (hs_lv σ232 [o]).bind fun _ =>
 (hs_nA σ232 11 5 5).bind fun σ233 =>
 (hs_pR σ233 10 o 40 (some (hs_N σ232))).bind fun σ239 =>
 (hs_lv σ239 [o]).bind fun _ =>
 (hs_nA σ239 11 5 5).bind fun σ240 =>
 (hs_pR σ240 10 o 41 (some (hs_N σ239))).bind fun σ246 =>
 (hs_lv σ246 [o]).bind fun _ =>
 (hs_nA σ246 11 5 5).bind fun σ247 =>
 (hs_pR σ247 10 o 42 (some (hs_N σ246))).bind fun σ253 =>
 (hs_gN σ253 10 o 17).bind fun n255 =>
 (hs_st σ253 11 n255 0 60).bind fun σ256 =>
 (hs_gN σ256 10 o 17).bind fun n259 =>
 (hs_st σ256 11 n259 2 3).bind fun σ260 =>
 (hs_gN σ260 10 o 17).bind fun n263 =>
 (hs_st σ260 11 n263 3 100).bind fun σ264 =>
 (hs_gN σ264 10 o 17).bind fun n267 =>
 (hs_st σ264 11 n267 4 1).bind fun σ268 =>
 (hs_gN σ268 10 o 17).bind fun n271 =>
 (hs_st σ268 11 n271 5 1).bind fun σ272 =>
 (hs_gN σ272 10 o 17).bind fun n275 =>
 (hs_st σ272 11 n275 6 1).bind fun σ276 =>
 some ((), σ276)
section SX8_init
variable {p : Program} {l : Launch} {e : Env} {s : State} {m : MethodId} {args : Array Value} {below : List Frame} {meth : Method} {c : Code} {X : hs_X} {ad : Nat → Nat} {A : Nat → Prop} {r : Unit} {τ : hs_T} {N0 : Nat}
set_option maxRecDepth 100000 in
set_option maxHeartbeats 4000000 in
theorem wX8_init_e (fu : Nat) (C : hs_Cx p s m args meth c X A yX8_init cX8_init 1 none wsX8_init) (hem : ad hs_em = X.2.2.1.2.2.2) {H : Heap} {locs : List Loc} {ls : Array Slot} (σ : hs_T) (o : Nat) (hf : fX8_init fu σ o = some (r, τ)) (hB : hs_H X.1 X.2.1 ad A σ H) (hS : va_S A s.heap H locs) (hl : lv_has ls 1 [(0, .ref (ad o))]) (hN : N0 = hs_N σ) : W p l e rmX8_init s m args below meth c H locs 0 0 (MQ below (hs_Q1 hs_tvv X ad N0 A r τ) args s 31 13460 A) (F0 m 0 ls []) := by
  obtain ⟨hx, hb, hml, hr, hts, hown, hlk, hnm, hV, hA0, hA⟩ := id C
  have hown : s.vm.findClass RX8 = some m.cls := hown
  have hK := hV.1
  have hNw := hV.2.1
  unfold fX8_init at hf
  have hag : hs_Ag N0 ad ad := fun _ _ => rfl
  have hN0 : N0 ≤ hs_N σ := Nat.le_of_eq hN
  refine lv_aload_n hx hb dX8_init_0 rfl (lv_at hl 0 rfl) ?_
  refine W.objInit hx hb hown (hts _ lkX8_init_1) (hts _ lkX8_init_2) (hts _ lkX8_init_0) rfl (by rw [hml]; exact hl.1) rfl dX8_init_1 (Nat.le_of_ble_eq_true rfl) (Nat.le_of_ble_eq_true rfl) ?_
  refine W.eq (g2 := F0 m 4 ls []) rfl ?_
  refine lv_aload_n hx hb dX8_init_4 rfl (lv_at hl 0 rfl) ?_
  refine lv_bipush (v := 120) hx hb dX8_init_5 (by decide) ?_
  obtain ⟨_, h5, hf⟩ := hs_bi hf
  obtain ⟨σ1, h2, hf⟩ := hs_bi hf
  refine hs_newI (mx := 120) hx hb (hts _ lkX8_init_3) hK hB hS hA (by decide) h2 (Nat.le_of_ble_eq_true rfl) (Nat.le_of_ble_eq_true rfl) dX8_init_7 (fun ad3 H g4 hB hS => ?_)
  have hem : ad3 hs_em = X.2.2.1.2.2.2 := (g4 _ (Or.inr rfl)).trans hem
  have hag := hs_agt hag hN0 g4
  have hl : lv_has ls 1 [(0, .ref (ad3 o))] := by rw [g4 o (Or.inl (hs_lv_i h5 _ (List.mem_of_getElem? (i := 0) rfl)))]; exact hl
  refine W.eq (g2 := F0 m 9 ls [.ref (ad3 (hs_N σ)), .ref (ad3 o)]) (by rw [g4 o (Or.inl (hs_lv_i h5 _ (List.mem_of_getElem? (i := 0) rfl)))] <;> rfl) ?_
  have hN0 : N0 ≤ hs_N σ1 := by rw [hs_nA_N h2]; exact Nat.le_succ_of_le hN0
  obtain ⟨σ7, h6, hf⟩ := hs_bi hf
  refine x_putRsF hx hb hts inX8_init_X8 tyX8_ok nmX8 hown hK hB hS (by decide) rfl (k := 2) (by decide) rfl h6 (hts _ lkX8_init_4) (fun _ h9 => h9) rfl hnm rfl (ty := .array .int) (by decide +kernel) rfl rfl dX8_init_9 (fun H locs hB hS => ?_)
  have hN0 : N0 ≤ hs_N σ7 := by rw [hs_pR_N h6]; exact hN0
  refine lv_aload_n hx hb dX8_init_12 rfl (lv_at hl 0 rfl) ?_
  refine lv_sipush (v := 720) hx hb dX8_init_13 (by decide) ?_
  obtain ⟨_, h12, hf⟩ := hs_bi hf
  obtain ⟨σ8, h9, hf⟩ := hs_bi hf
  refine hs_newI (mx := 720) hx hb (hts _ lkX8_init_3) hK hB hS hA (by decide) h9 (Nat.le_of_ble_eq_true rfl) (Nat.le_of_ble_eq_true rfl) dX8_init_16 (fun ad10 H g11 hB hS => ?_)
  have hem : ad10 hs_em = X.2.2.1.2.2.2 := (g11 _ (Or.inr rfl)).trans hem
  have hag := hs_agt hag hN0 g11
  have hl : lv_has ls 1 [(0, .ref (ad10 o))] := by rw [g11 o (Or.inl (hs_lv_i h12 _ (List.mem_of_getElem? (i := 0) rfl)))]; exact hl
  refine W.eq (g2 := F0 m 18 ls [.ref (ad10 (hs_N σ7)), .ref (ad10 o)]) (by rw [g11 o (Or.inl (hs_lv_i h12 _ (List.mem_of_getElem? (i := 0) rfl)))] <;> rfl) ?_
  have hN0 : N0 ≤ hs_N σ8 := by rw [hs_nA_N h9]; exact Nat.le_succ_of_le hN0
  obtain ⟨σ14, h13, hf⟩ := hs_bi hf
  refine x_putRsF hx hb hts inX8_init_X8 tyX8_ok nmX8 hown hK hB hS (by decide) rfl (k := 3) (by decide) rfl h13 (hts _ lkX8_init_5) (fun _ h9 => h9) rfl hnm rfl (ty := .array .int) (by decide +kernel) rfl rfl dX8_init_18 (fun H locs hB hS => ?_)
  have hN0 : N0 ≤ hs_N σ14 := by rw [hs_pR_N h13]; exact hN0
  refine lv_aload_n hx hb dX8_init_21 rfl (lv_at hl 0 rfl) ?_
  refine lv_sipush (v := 720) hx hb dX8_init_22 (by decide) ?_
  obtain ⟨_, h19, hf⟩ := hs_bi hf
  obtain ⟨σ15, h16, hf⟩ := hs_bi hf
  refine hs_newI (mx := 720) hx hb (hts _ lkX8_init_3) hK hB hS hA (by decide) h16 (Nat.le_of_ble_eq_true rfl) (Nat.le_of_ble_eq_true rfl) dX8_init_25 (fun ad17 H g18 hB hS => ?_)
  have hem : ad17 hs_em = X.2.2.1.2.2.2 := (g18 _ (Or.inr rfl)).trans hem
  have hag := hs_agt hag hN0 g18
  have hl : lv_has ls 1 [(0, .ref (ad17 o))] := by rw [g18 o (Or.inl (hs_lv_i h19 _ (List.mem_of_getElem? (i := 0) rfl)))]; exact hl
  refine W.eq (g2 := F0 m 27 ls [.ref (ad17 (hs_N σ14)), .ref (ad17 o)]) (by rw [g18 o (Or.inl (hs_lv_i h19 _ (List.mem_of_getElem? (i := 0) rfl)))] <;> rfl) ?_
  have hN0 : N0 ≤ hs_N σ15 := by rw [hs_nA_N h16]; exact Nat.le_succ_of_le hN0
  obtain ⟨σ21, h20, hf⟩ := hs_bi hf
  refine x_putRsF hx hb hts inX8_init_X8 tyX8_ok nmX8 hown hK hB hS (by decide) rfl (k := 4) (by decide) rfl h20 (hts _ lkX8_init_6) (fun _ h9 => h9) rfl hnm rfl (ty := .array .int) (by decide +kernel) rfl rfl dX8_init_27 (fun H locs hB hS => ?_)
  have hN0 : N0 ≤ hs_N σ21 := by rw [hs_pR_N h20]; exact hN0
  refine lv_aload_n hx hb dX8_init_30 rfl (lv_at hl 0 rfl) ?_
  refine lv_bipush (v := 30) hx hb dX8_init_31 (by decide) ?_
  obtain ⟨_, h26, hf⟩ := hs_bi hf
  obtain ⟨σ22, h23, hf⟩ := hs_bi hf
  refine hs_newI (mx := 30) hx hb (hts _ lkX8_init_3) hK hB hS hA (by decide) h23 (Nat.le_of_ble_eq_true rfl) (Nat.le_of_ble_eq_true rfl) dX8_init_33 (fun ad24 H g25 hB hS => ?_)
  have hem : ad24 hs_em = X.2.2.1.2.2.2 := (g25 _ (Or.inr rfl)).trans hem
  have hag := hs_agt hag hN0 g25
  have hl : lv_has ls 1 [(0, .ref (ad24 o))] := by rw [g25 o (Or.inl (hs_lv_i h26 _ (List.mem_of_getElem? (i := 0) rfl)))]; exact hl
  refine W.eq (g2 := F0 m 35 ls [.ref (ad24 (hs_N σ21)), .ref (ad24 o)]) (by rw [g25 o (Or.inl (hs_lv_i h26 _ (List.mem_of_getElem? (i := 0) rfl)))] <;> rfl) ?_
  have hN0 : N0 ≤ hs_N σ22 := by rw [hs_nA_N h23]; exact Nat.le_succ_of_le hN0
  obtain ⟨σ28, h27, hf⟩ := hs_bi hf
  refine x_putRsF hx hb hts inX8_init_X8 tyX8_ok nmX8 hown hK hB hS (by decide) rfl (k := 5) (by decide) rfl h27 (hts _ lkX8_init_7) (fun _ h9 => h9) rfl hnm rfl (ty := .array .int) (by decide +kernel) rfl rfl dX8_init_35 (fun H locs hB hS => ?_)
  have hN0 : N0 ≤ hs_N σ28 := by rw [hs_pR_N h27]; exact hN0
  refine lv_aload_n hx hb dX8_init_38 rfl (lv_at hl 0 rfl) ?_
  refine lv_bipush (v := 15) hx hb dX8_init_39 (by decide) ?_
  obtain ⟨_, h33, hf⟩ := hs_bi hf
  obtain ⟨σ29, h30, hf⟩ := hs_bi hf
  refine hs_newZ (mx := 15) hx hb (hts _ lkX8_init_8) hK hB hS hA (by decide) h30 (Nat.le_of_ble_eq_true rfl) (Nat.le_of_ble_eq_true rfl) dX8_init_41 (fun ad31 H g32 hB hS => ?_)
  have hem : ad31 hs_em = X.2.2.1.2.2.2 := (g32 _ (Or.inr rfl)).trans hem
  have hag := hs_agt hag hN0 g32
  have hl : lv_has ls 1 [(0, .ref (ad31 o))] := by rw [g32 o (Or.inl (hs_lv_i h33 _ (List.mem_of_getElem? (i := 0) rfl)))]; exact hl
  refine W.eq (g2 := F0 m 43 ls [.ref (ad31 (hs_N σ28)), .ref (ad31 o)]) (by rw [g32 o (Or.inl (hs_lv_i h33 _ (List.mem_of_getElem? (i := 0) rfl)))] <;> rfl) ?_
  have hN0 : N0 ≤ hs_N σ29 := by rw [hs_nA_N h30]; exact Nat.le_succ_of_le hN0
  obtain ⟨σ35, h34, hf⟩ := hs_bi hf
  refine x_putRsF hx hb hts inX8_init_X8 tyX8_ok nmX8 hown hK hB hS (by decide) rfl (k := 6) (by decide) rfl h34 (hts _ lkX8_init_9) (fun _ h9 => h9) rfl hnm rfl (ty := .array .boolean) (by decide +kernel) rfl rfl dX8_init_43 (fun H locs hB hS => ?_)
  have hN0 : N0 ≤ hs_N σ35 := by rw [hs_pR_N h34]; exact hN0
  refine lv_aload_n hx hb dX8_init_46 rfl (lv_at hl 0 rfl) ?_
  refine lv_bipush (v := 24) hx hb dX8_init_47 (by decide) ?_
  obtain ⟨_, h40, hf⟩ := hs_bi hf
  obtain ⟨σ36, h37, hf⟩ := hs_bi hf
  refine hs_newI (mx := 24) hx hb (hts _ lkX8_init_3) hK hB hS hA (by decide) h37 (Nat.le_of_ble_eq_true rfl) (Nat.le_of_ble_eq_true rfl) dX8_init_49 (fun ad38 H g39 hB hS => ?_)
  have hem : ad38 hs_em = X.2.2.1.2.2.2 := (g39 _ (Or.inr rfl)).trans hem
  have hag := hs_agt hag hN0 g39
  have hl : lv_has ls 1 [(0, .ref (ad38 o))] := by rw [g39 o (Or.inl (hs_lv_i h40 _ (List.mem_of_getElem? (i := 0) rfl)))]; exact hl
  refine W.eq (g2 := F0 m 51 ls [.ref (ad38 (hs_N σ35)), .ref (ad38 o)]) (by rw [g39 o (Or.inl (hs_lv_i h40 _ (List.mem_of_getElem? (i := 0) rfl)))] <;> rfl) ?_
  have hN0 : N0 ≤ hs_N σ36 := by rw [hs_nA_N h37]; exact Nat.le_succ_of_le hN0
  obtain ⟨σ42, h41, hf⟩ := hs_bi hf
  refine x_putRsF hx hb hts inX8_init_X8 tyX8_ok nmX8 hown hK hB hS (by decide) rfl (k := 9) (by decide) rfl h41 (hts _ lkX8_init_10) (fun _ h9 => h9) rfl hnm rfl (ty := .array .int) (by decide +kernel) rfl rfl dX8_init_51 (fun H locs hB hS => ?_)
  have hN0 : N0 ≤ hs_N σ42 := by rw [hs_pR_N h41]; exact hN0
  refine lv_aload_n hx hb dX8_init_54 rfl (lv_at hl 0 rfl) ?_
  refine lv_bipush (v := 24) hx hb dX8_init_55 (by decide) ?_
  obtain ⟨_, h47, hf⟩ := hs_bi hf
  obtain ⟨σ43, h44, hf⟩ := hs_bi hf
  refine hs_newI (mx := 24) hx hb (hts _ lkX8_init_3) hK hB hS hA (by decide) h44 (Nat.le_of_ble_eq_true rfl) (Nat.le_of_ble_eq_true rfl) dX8_init_57 (fun ad45 H g46 hB hS => ?_)
  have hem : ad45 hs_em = X.2.2.1.2.2.2 := (g46 _ (Or.inr rfl)).trans hem
  have hag := hs_agt hag hN0 g46
  have hl : lv_has ls 1 [(0, .ref (ad45 o))] := by rw [g46 o (Or.inl (hs_lv_i h47 _ (List.mem_of_getElem? (i := 0) rfl)))]; exact hl
  refine W.eq (g2 := F0 m 59 ls [.ref (ad45 (hs_N σ42)), .ref (ad45 o)]) (by rw [g46 o (Or.inl (hs_lv_i h47 _ (List.mem_of_getElem? (i := 0) rfl)))] <;> rfl) ?_
  have hN0 : N0 ≤ hs_N σ43 := by rw [hs_nA_N h44]; exact Nat.le_succ_of_le hN0
  obtain ⟨σ49, h48, hf⟩ := hs_bi hf
  refine x_putRsF hx hb hts inX8_init_X8 tyX8_ok nmX8 hown hK hB hS (by decide) rfl (k := 10) (by decide) rfl h48 (hts _ lkX8_init_11) (fun _ h9 => h9) rfl hnm rfl (ty := .array .int) (by decide +kernel) rfl rfl dX8_init_59 (fun H locs hB hS => ?_)
  have hN0 : N0 ≤ hs_N σ49 := by rw [hs_pR_N h48]; exact hN0
  refine lv_aload_n hx hb dX8_init_62 rfl (lv_at hl 0 rfl) ?_
  refine lv_bipush (v := 120) hx hb dX8_init_63 (by decide) ?_
  obtain ⟨_, h54, hf⟩ := hs_bi hf
  obtain ⟨σ50, h51, hf⟩ := hs_bi hf
  refine hs_newI (mx := 120) hx hb (hts _ lkX8_init_3) hK hB hS hA (by decide) h51 (Nat.le_of_ble_eq_true rfl) (Nat.le_of_ble_eq_true rfl) dX8_init_65 (fun ad52 H g53 hB hS => ?_)
  have hem : ad52 hs_em = X.2.2.1.2.2.2 := (g53 _ (Or.inr rfl)).trans hem
  have hag := hs_agt hag hN0 g53
  have hl : lv_has ls 1 [(0, .ref (ad52 o))] := by rw [g53 o (Or.inl (hs_lv_i h54 _ (List.mem_of_getElem? (i := 0) rfl)))]; exact hl
  refine W.eq (g2 := F0 m 67 ls [.ref (ad52 (hs_N σ49)), .ref (ad52 o)]) (by rw [g53 o (Or.inl (hs_lv_i h54 _ (List.mem_of_getElem? (i := 0) rfl)))] <;> rfl) ?_
  have hN0 : N0 ≤ hs_N σ50 := by rw [hs_nA_N h51]; exact Nat.le_succ_of_le hN0
  obtain ⟨σ56, h55, hf⟩ := hs_bi hf
  refine x_putRsF hx hb hts inX8_init_X8 tyX8_ok nmX8 hown hK hB hS (by decide) rfl (k := 12) (by decide) rfl h55 (hts _ lkX8_init_12) (fun _ h9 => h9) rfl hnm rfl (ty := .array .int) (by decide +kernel) rfl rfl dX8_init_67 (fun H locs hB hS => ?_)
  have hN0 : N0 ≤ hs_N σ56 := by rw [hs_pR_N h55]; exact hN0
  refine lv_aload_n hx hb dX8_init_70 rfl (lv_at hl 0 rfl) ?_
  refine lv_bipush (v := 8) hx hb dX8_init_71 (by decide) ?_
  obtain ⟨_, h61, hf⟩ := hs_bi hf
  obtain ⟨σ57, h58, hf⟩ := hs_bi hf
  refine hs_newI (mx := 8) hx hb (hts _ lkX8_init_3) hK hB hS hA (by decide) h58 (Nat.le_of_ble_eq_true rfl) (Nat.le_of_ble_eq_true rfl) dX8_init_73 (fun ad59 H g60 hB hS => ?_)
  have hem : ad59 hs_em = X.2.2.1.2.2.2 := (g60 _ (Or.inr rfl)).trans hem
  have hag := hs_agt hag hN0 g60
  have hl : lv_has ls 1 [(0, .ref (ad59 o))] := by rw [g60 o (Or.inl (hs_lv_i h61 _ (List.mem_of_getElem? (i := 0) rfl)))]; exact hl
  refine W.eq (g2 := F0 m 75 ls [.ref (ad59 (hs_N σ56)), .ref (ad59 o)]) (by rw [g60 o (Or.inl (hs_lv_i h61 _ (List.mem_of_getElem? (i := 0) rfl)))] <;> rfl) ?_
  have hN0 : N0 ≤ hs_N σ57 := by rw [hs_nA_N h58]; exact Nat.le_succ_of_le hN0
  obtain ⟨σ63, h62, hf⟩ := hs_bi hf
  refine x_putRsF hx hb hts inX8_init_X8 tyX8_ok nmX8 hown hK hB hS (by decide) rfl (k := 13) (by decide) rfl h62 (hts _ lkX8_init_13) (fun _ h9 => h9) rfl hnm rfl (ty := .array .int) (by decide +kernel) rfl rfl dX8_init_75 (fun H locs hB hS => ?_)
  have hN0 : N0 ≤ hs_N σ63 := by rw [hs_pR_N h62]; exact hN0
  refine lv_aload_n hx hb dX8_init_78 rfl (lv_at hl 0 rfl) ?_
  refine lv_bipush (v := 15) hx hb dX8_init_79 (by decide) ?_
  obtain ⟨_, h68, hf⟩ := hs_bi hf
  obtain ⟨σ64, h65, hf⟩ := hs_bi hf
  refine hs_newI (mx := 15) hx hb (hts _ lkX8_init_3) hK hB hS hA (by decide) h65 (Nat.le_of_ble_eq_true rfl) (Nat.le_of_ble_eq_true rfl) dX8_init_81 (fun ad66 H g67 hB hS => ?_)
  have hem : ad66 hs_em = X.2.2.1.2.2.2 := (g67 _ (Or.inr rfl)).trans hem
  have hag := hs_agt hag hN0 g67
  have hl : lv_has ls 1 [(0, .ref (ad66 o))] := by rw [g67 o (Or.inl (hs_lv_i h68 _ (List.mem_of_getElem? (i := 0) rfl)))]; exact hl
  refine W.eq (g2 := F0 m 83 ls [.ref (ad66 (hs_N σ63)), .ref (ad66 o)]) (by rw [g67 o (Or.inl (hs_lv_i h68 _ (List.mem_of_getElem? (i := 0) rfl)))] <;> rfl) ?_
  have hN0 : N0 ≤ hs_N σ64 := by rw [hs_nA_N h65]; exact Nat.le_succ_of_le hN0
  obtain ⟨σ70, h69, hf⟩ := hs_bi hf
  refine x_putRsF hx hb hts inX8_init_X8 tyX8_ok nmX8 hown hK hB hS (by decide) rfl (k := 14) (by decide) rfl h69 (hts _ lkX8_init_14) (fun _ h9 => h9) rfl hnm rfl (ty := .array .int) (by decide +kernel) rfl rfl dX8_init_83 (fun H locs hB hS => ?_)
  have hN0 : N0 ≤ hs_N σ70 := by rw [hs_pR_N h69]; exact hN0
  refine lv_aload_n hx hb dX8_init_86 rfl (lv_at hl 0 rfl) ?_
  refine lv_bipush (v := 15) hx hb dX8_init_87 (by decide) ?_
  obtain ⟨_, h75, hf⟩ := hs_bi hf
  obtain ⟨σ71, h72, hf⟩ := hs_bi hf
  refine hs_newI (mx := 15) hx hb (hts _ lkX8_init_3) hK hB hS hA (by decide) h72 (Nat.le_of_ble_eq_true rfl) (Nat.le_of_ble_eq_true rfl) dX8_init_89 (fun ad73 H g74 hB hS => ?_)
  have hem : ad73 hs_em = X.2.2.1.2.2.2 := (g74 _ (Or.inr rfl)).trans hem
  have hag := hs_agt hag hN0 g74
  have hl : lv_has ls 1 [(0, .ref (ad73 o))] := by rw [g74 o (Or.inl (hs_lv_i h75 _ (List.mem_of_getElem? (i := 0) rfl)))]; exact hl
  refine W.eq (g2 := F0 m 91 ls [.ref (ad73 (hs_N σ70)), .ref (ad73 o)]) (by rw [g74 o (Or.inl (hs_lv_i h75 _ (List.mem_of_getElem? (i := 0) rfl)))] <;> rfl) ?_
  have hN0 : N0 ≤ hs_N σ71 := by rw [hs_nA_N h72]; exact Nat.le_succ_of_le hN0
  obtain ⟨σ77, h76, hf⟩ := hs_bi hf
  refine x_putRsF hx hb hts inX8_init_X8 tyX8_ok nmX8 hown hK hB hS (by decide) rfl (k := 15) (by decide) rfl h76 (hts _ lkX8_init_15) (fun _ h9 => h9) rfl hnm rfl (ty := .array .int) (by decide +kernel) rfl rfl dX8_init_91 (fun H locs hB hS => ?_)
  have hN0 : N0 ≤ hs_N σ77 := by rw [hs_pR_N h76]; exact hN0
  refine lv_aload_n hx hb dX8_init_94 rfl (lv_at hl 0 rfl) ?_
  refine lv_bipush (v := 15) hx hb dX8_init_95 (by decide) ?_
  obtain ⟨_, h82, hf⟩ := hs_bi hf
  obtain ⟨σ78, h79, hf⟩ := hs_bi hf
  refine hs_newI (mx := 15) hx hb (hts _ lkX8_init_3) hK hB hS hA (by decide) h79 (Nat.le_of_ble_eq_true rfl) (Nat.le_of_ble_eq_true rfl) dX8_init_97 (fun ad80 H g81 hB hS => ?_)
  have hem : ad80 hs_em = X.2.2.1.2.2.2 := (g81 _ (Or.inr rfl)).trans hem
  have hag := hs_agt hag hN0 g81
  have hl : lv_has ls 1 [(0, .ref (ad80 o))] := by rw [g81 o (Or.inl (hs_lv_i h82 _ (List.mem_of_getElem? (i := 0) rfl)))]; exact hl
  refine W.eq (g2 := F0 m 99 ls [.ref (ad80 (hs_N σ77)), .ref (ad80 o)]) (by rw [g81 o (Or.inl (hs_lv_i h82 _ (List.mem_of_getElem? (i := 0) rfl)))] <;> rfl) ?_
  have hN0 : N0 ≤ hs_N σ78 := by rw [hs_nA_N h79]; exact Nat.le_succ_of_le hN0
  obtain ⟨σ84, h83, hf⟩ := hs_bi hf
  refine x_putRsF hx hb hts inX8_init_X8 tyX8_ok nmX8 hown hK hB hS (by decide) rfl (k := 16) (by decide) rfl h83 (hts _ lkX8_init_16) (fun _ h9 => h9) rfl hnm rfl (ty := .array .int) (by decide +kernel) rfl rfl dX8_init_99 (fun H locs hB hS => ?_)
  have hN0 : N0 ≤ hs_N σ84 := by rw [hs_pR_N h83]; exact hN0
  refine lv_aload_n hx hb dX8_init_102 rfl (lv_at hl 0 rfl) ?_
  refine lv_bipush (v := 7) hx hb dX8_init_103 (by decide) ?_
  obtain ⟨_, h89, hf⟩ := hs_bi hf
  obtain ⟨σ85, h86, hf⟩ := hs_bi hf
  refine hs_newI (mx := 7) hx hb (hts _ lkX8_init_3) hK hB hS hA (by decide) h86 (Nat.le_of_ble_eq_true rfl) (Nat.le_of_ble_eq_true rfl) dX8_init_105 (fun ad87 H g88 hB hS => ?_)
  have hem : ad87 hs_em = X.2.2.1.2.2.2 := (g88 _ (Or.inr rfl)).trans hem
  have hag := hs_agt hag hN0 g88
  have hl : lv_has ls 1 [(0, .ref (ad87 o))] := by rw [g88 o (Or.inl (hs_lv_i h89 _ (List.mem_of_getElem? (i := 0) rfl)))]; exact hl
  refine W.eq (g2 := F0 m 107 ls [.ref (ad87 (hs_N σ84)), .ref (ad87 o)]) (by rw [g88 o (Or.inl (hs_lv_i h89 _ (List.mem_of_getElem? (i := 0) rfl)))] <;> rfl) ?_
  have hN0 : N0 ≤ hs_N σ85 := by rw [hs_nA_N h86]; exact Nat.le_succ_of_le hN0
  obtain ⟨σ91, h90, hf⟩ := hs_bi hf
  refine x_putRsF hx hb hts inX8_init_X8 tyX8_ok nmX8 hown hK hB hS (by decide) rfl (k := 17) (by decide) rfl h90 (hts _ lkX8_init_17) (fun _ h9 => h9) rfl hnm rfl (ty := .array .int) (by decide +kernel) rfl rfl dX8_init_107 (fun H locs hB hS => ?_)
  have hN0 : N0 ≤ hs_N σ91 := by rw [hs_pR_N h90]; exact hN0
  refine lv_aload_n hx hb dX8_init_110 rfl (lv_at hl 0 rfl) ?_
  refine lv_bipush (v := 9) hx hb dX8_init_111 (by decide) ?_
  obtain ⟨_, h96, hf⟩ := hs_bi hf
  obtain ⟨σ92, h93, hf⟩ := hs_bi hf
  refine hs_newI (mx := 9) hx hb (hts _ lkX8_init_3) hK hB hS hA (by decide) h93 (Nat.le_of_ble_eq_true rfl) (Nat.le_of_ble_eq_true rfl) dX8_init_113 (fun ad94 H g95 hB hS => ?_)
  have hem : ad94 hs_em = X.2.2.1.2.2.2 := (g95 _ (Or.inr rfl)).trans hem
  have hag := hs_agt hag hN0 g95
  have hl : lv_has ls 1 [(0, .ref (ad94 o))] := by rw [g95 o (Or.inl (hs_lv_i h96 _ (List.mem_of_getElem? (i := 0) rfl)))]; exact hl
  refine W.eq (g2 := F0 m 115 ls [.ref (ad94 (hs_N σ91)), .ref (ad94 o)]) (by rw [g95 o (Or.inl (hs_lv_i h96 _ (List.mem_of_getElem? (i := 0) rfl)))] <;> rfl) ?_
  have hN0 : N0 ≤ hs_N σ92 := by rw [hs_nA_N h93]; exact Nat.le_succ_of_le hN0
  obtain ⟨σ98, h97, hf⟩ := hs_bi hf
  refine x_putRsF hx hb hts inX8_init_X8 tyX8_ok nmX8 hown hK hB hS (by decide) rfl (k := 18) (by decide) rfl h97 (hts _ lkX8_init_18) (fun _ h9 => h9) rfl hnm rfl (ty := .array .int) (by decide +kernel) rfl rfl dX8_init_115 (fun H locs hB hS => ?_)
  have hN0 : N0 ≤ hs_N σ98 := by rw [hs_pR_N h97]; exact hN0
  refine lv_aload_n hx hb dX8_init_118 rfl (lv_at hl 0 rfl) ?_
  refine lv_sipush (v := 400) hx hb dX8_init_119 (by decide) ?_
  obtain ⟨_, h103, hf⟩ := hs_bi hf
  obtain ⟨σ99, h100, hf⟩ := hs_bi hf
  refine hs_newI (mx := 400) hx hb (hts _ lkX8_init_3) hK hB hS hA (by decide) h100 (Nat.le_of_ble_eq_true rfl) (Nat.le_of_ble_eq_true rfl) dX8_init_122 (fun ad101 H g102 hB hS => ?_)
  have hem : ad101 hs_em = X.2.2.1.2.2.2 := (g102 _ (Or.inr rfl)).trans hem
  have hag := hs_agt hag hN0 g102
  have hl : lv_has ls 1 [(0, .ref (ad101 o))] := by rw [g102 o (Or.inl (hs_lv_i h103 _ (List.mem_of_getElem? (i := 0) rfl)))]; exact hl
  refine W.eq (g2 := F0 m 124 ls [.ref (ad101 (hs_N σ98)), .ref (ad101 o)]) (by rw [g102 o (Or.inl (hs_lv_i h103 _ (List.mem_of_getElem? (i := 0) rfl)))] <;> rfl) ?_
  have hN0 : N0 ≤ hs_N σ99 := by rw [hs_nA_N h100]; exact Nat.le_succ_of_le hN0
  obtain ⟨σ105, h104, hf⟩ := hs_bi hf
  refine x_putRsF hx hb hts inX8_init_X8 tyX8_ok nmX8 hown hK hB hS (by decide) rfl (k := 22) (by decide) rfl h104 (hts _ lkX8_init_19) (fun _ h9 => h9) rfl hnm rfl (ty := .array .int) (by decide +kernel) rfl rfl dX8_init_124 (fun H locs hB hS => ?_)
  have hN0 : N0 ≤ hs_N σ105 := by rw [hs_pR_N h104]; exact hN0
  refine lv_aload_n hx hb dX8_init_127 rfl (lv_at hl 0 rfl) ?_
  refine lv_sipush (v := 400) hx hb dX8_init_128 (by decide) ?_
  obtain ⟨_, h110, hf⟩ := hs_bi hf
  obtain ⟨σ106, h107, hf⟩ := hs_bi hf
  refine hs_newI (mx := 400) hx hb (hts _ lkX8_init_3) hK hB hS hA (by decide) h107 (Nat.le_of_ble_eq_true rfl) (Nat.le_of_ble_eq_true rfl) dX8_init_131 (fun ad108 H g109 hB hS => ?_)
  have hem : ad108 hs_em = X.2.2.1.2.2.2 := (g109 _ (Or.inr rfl)).trans hem
  have hag := hs_agt hag hN0 g109
  have hl : lv_has ls 1 [(0, .ref (ad108 o))] := by rw [g109 o (Or.inl (hs_lv_i h110 _ (List.mem_of_getElem? (i := 0) rfl)))]; exact hl
  refine W.eq (g2 := F0 m 133 ls [.ref (ad108 (hs_N σ105)), .ref (ad108 o)]) (by rw [g109 o (Or.inl (hs_lv_i h110 _ (List.mem_of_getElem? (i := 0) rfl)))] <;> rfl) ?_
  have hN0 : N0 ≤ hs_N σ106 := by rw [hs_nA_N h107]; exact Nat.le_succ_of_le hN0
  obtain ⟨σ112, h111, hf⟩ := hs_bi hf
  refine x_putRsF hx hb hts inX8_init_X8 tyX8_ok nmX8 hown hK hB hS (by decide) rfl (k := 23) (by decide) rfl h111 (hts _ lkX8_init_20) (fun _ h9 => h9) rfl hnm rfl (ty := .array .int) (by decide +kernel) rfl rfl dX8_init_133 (fun H locs hB hS => ?_)
  have hN0 : N0 ≤ hs_N σ112 := by rw [hs_pR_N h111]; exact hN0
  refine lv_aload_n hx hb dX8_init_136 rfl (lv_at hl 0 rfl) ?_
  refine lv_sipush (v := 400) hx hb dX8_init_137 (by decide) ?_
  obtain ⟨_, h117, hf⟩ := hs_bi hf
  obtain ⟨σ113, h114, hf⟩ := hs_bi hf
  refine hs_newI (mx := 400) hx hb (hts _ lkX8_init_3) hK hB hS hA (by decide) h114 (Nat.le_of_ble_eq_true rfl) (Nat.le_of_ble_eq_true rfl) dX8_init_140 (fun ad115 H g116 hB hS => ?_)
  have hem : ad115 hs_em = X.2.2.1.2.2.2 := (g116 _ (Or.inr rfl)).trans hem
  have hag := hs_agt hag hN0 g116
  have hl : lv_has ls 1 [(0, .ref (ad115 o))] := by rw [g116 o (Or.inl (hs_lv_i h117 _ (List.mem_of_getElem? (i := 0) rfl)))]; exact hl
  refine W.eq (g2 := F0 m 142 ls [.ref (ad115 (hs_N σ112)), .ref (ad115 o)]) (by rw [g116 o (Or.inl (hs_lv_i h117 _ (List.mem_of_getElem? (i := 0) rfl)))] <;> rfl) ?_
  have hN0 : N0 ≤ hs_N σ113 := by rw [hs_nA_N h114]; exact Nat.le_succ_of_le hN0
  obtain ⟨σ119, h118, hf⟩ := hs_bi hf
  refine x_putRsF hx hb hts inX8_init_X8 tyX8_ok nmX8 hown hK hB hS (by decide) rfl (k := 24) (by decide) rfl h118 (hts _ lkX8_init_21) (fun _ h9 => h9) rfl hnm rfl (ty := .array .int) (by decide +kernel) rfl rfl dX8_init_142 (fun H locs hB hS => ?_)
  have hN0 : N0 ≤ hs_N σ119 := by rw [hs_pR_N h118]; exact hN0
  refine lv_aload_n hx hb dX8_init_145 rfl (lv_at hl 0 rfl) ?_
  refine lv_sipush (v := 400) hx hb dX8_init_146 (by decide) ?_
  obtain ⟨_, h124, hf⟩ := hs_bi hf
  obtain ⟨σ120, h121, hf⟩ := hs_bi hf
  refine hs_newI (mx := 400) hx hb (hts _ lkX8_init_3) hK hB hS hA (by decide) h121 (Nat.le_of_ble_eq_true rfl) (Nat.le_of_ble_eq_true rfl) dX8_init_149 (fun ad122 H g123 hB hS => ?_)
  have hem : ad122 hs_em = X.2.2.1.2.2.2 := (g123 _ (Or.inr rfl)).trans hem
  have hag := hs_agt hag hN0 g123
  have hl : lv_has ls 1 [(0, .ref (ad122 o))] := by rw [g123 o (Or.inl (hs_lv_i h124 _ (List.mem_of_getElem? (i := 0) rfl)))]; exact hl
  refine W.eq (g2 := F0 m 151 ls [.ref (ad122 (hs_N σ119)), .ref (ad122 o)]) (by rw [g123 o (Or.inl (hs_lv_i h124 _ (List.mem_of_getElem? (i := 0) rfl)))] <;> rfl) ?_
  have hN0 : N0 ≤ hs_N σ120 := by rw [hs_nA_N h121]; exact Nat.le_succ_of_le hN0
  obtain ⟨σ126, h125, hf⟩ := hs_bi hf
  refine x_putRsF hx hb hts inX8_init_X8 tyX8_ok nmX8 hown hK hB hS (by decide) rfl (k := 25) (by decide) rfl h125 (hts _ lkX8_init_22) (fun _ h9 => h9) rfl hnm rfl (ty := .array .int) (by decide +kernel) rfl rfl dX8_init_151 (fun H locs hB hS => ?_)
  have hN0 : N0 ≤ hs_N σ126 := by rw [hs_pR_N h125]; exact hN0
  refine lv_aload_n hx hb dX8_init_154 rfl (lv_at hl 0 rfl) ?_
  refine lv_sipush (v := 400) hx hb dX8_init_155 (by decide) ?_
  obtain ⟨_, h131, hf⟩ := hs_bi hf
  obtain ⟨σ127, h128, hf⟩ := hs_bi hf
  refine hs_newI (mx := 400) hx hb (hts _ lkX8_init_3) hK hB hS hA (by decide) h128 (Nat.le_of_ble_eq_true rfl) (Nat.le_of_ble_eq_true rfl) dX8_init_158 (fun ad129 H g130 hB hS => ?_)
  have hem : ad129 hs_em = X.2.2.1.2.2.2 := (g130 _ (Or.inr rfl)).trans hem
  have hag := hs_agt hag hN0 g130
  have hl : lv_has ls 1 [(0, .ref (ad129 o))] := by rw [g130 o (Or.inl (hs_lv_i h131 _ (List.mem_of_getElem? (i := 0) rfl)))]; exact hl
  refine W.eq (g2 := F0 m 160 ls [.ref (ad129 (hs_N σ126)), .ref (ad129 o)]) (by rw [g130 o (Or.inl (hs_lv_i h131 _ (List.mem_of_getElem? (i := 0) rfl)))] <;> rfl) ?_
  have hN0 : N0 ≤ hs_N σ127 := by rw [hs_nA_N h128]; exact Nat.le_succ_of_le hN0
  obtain ⟨σ133, h132, hf⟩ := hs_bi hf
  refine x_putRsF hx hb hts inX8_init_X8 tyX8_ok nmX8 hown hK hB hS (by decide) rfl (k := 26) (by decide) rfl h132 (hts _ lkX8_init_23) (fun _ h9 => h9) rfl hnm rfl (ty := .array .int) (by decide +kernel) rfl rfl dX8_init_160 (fun H locs hB hS => ?_)
  have hN0 : N0 ≤ hs_N σ133 := by rw [hs_pR_N h132]; exact hN0
  refine lv_aload_n hx hb dX8_init_163 rfl (lv_at hl 0 rfl) ?_
  refine lv_sipush (v := 400) hx hb dX8_init_164 (by decide) ?_
  obtain ⟨_, h138, hf⟩ := hs_bi hf
  obtain ⟨σ134, h135, hf⟩ := hs_bi hf
  refine hs_newI (mx := 400) hx hb (hts _ lkX8_init_3) hK hB hS hA (by decide) h135 (Nat.le_of_ble_eq_true rfl) (Nat.le_of_ble_eq_true rfl) dX8_init_167 (fun ad136 H g137 hB hS => ?_)
  have hem : ad136 hs_em = X.2.2.1.2.2.2 := (g137 _ (Or.inr rfl)).trans hem
  have hag := hs_agt hag hN0 g137
  have hl : lv_has ls 1 [(0, .ref (ad136 o))] := by rw [g137 o (Or.inl (hs_lv_i h138 _ (List.mem_of_getElem? (i := 0) rfl)))]; exact hl
  refine W.eq (g2 := F0 m 169 ls [.ref (ad136 (hs_N σ133)), .ref (ad136 o)]) (by rw [g137 o (Or.inl (hs_lv_i h138 _ (List.mem_of_getElem? (i := 0) rfl)))] <;> rfl) ?_
  have hN0 : N0 ≤ hs_N σ134 := by rw [hs_nA_N h135]; exact Nat.le_succ_of_le hN0
  obtain ⟨σ140, h139, hf⟩ := hs_bi hf
  refine x_putRsF hx hb hts inX8_init_X8 tyX8_ok nmX8 hown hK hB hS (by decide) rfl (k := 27) (by decide) rfl h139 (hts _ lkX8_init_24) (fun _ h9 => h9) rfl hnm rfl (ty := .array .int) (by decide +kernel) rfl rfl dX8_init_169 (fun H locs hB hS => ?_)
  have hN0 : N0 ≤ hs_N σ140 := by rw [hs_pR_N h139]; exact hN0
  refine lv_aload_n hx hb dX8_init_172 rfl (lv_at hl 0 rfl) ?_
  refine lv_sipush (v := 1500) hx hb dX8_init_173 (by decide) ?_
  obtain ⟨_, h145, hf⟩ := hs_bi hf
  obtain ⟨σ141, h142, hf⟩ := hs_bi hf
  refine hs_newZ (mx := 1500) hx hb (hts _ lkX8_init_8) hK hB hS hA (by decide) h142 (Nat.le_of_ble_eq_true rfl) (Nat.le_of_ble_eq_true rfl) dX8_init_176 (fun ad143 H g144 hB hS => ?_)
  have hem : ad143 hs_em = X.2.2.1.2.2.2 := (g144 _ (Or.inr rfl)).trans hem
  have hag := hs_agt hag hN0 g144
  have hl : lv_has ls 1 [(0, .ref (ad143 o))] := by rw [g144 o (Or.inl (hs_lv_i h145 _ (List.mem_of_getElem? (i := 0) rfl)))]; exact hl
  refine W.eq (g2 := F0 m 178 ls [.ref (ad143 (hs_N σ140)), .ref (ad143 o)]) (by rw [g144 o (Or.inl (hs_lv_i h145 _ (List.mem_of_getElem? (i := 0) rfl)))] <;> rfl) ?_
  have hN0 : N0 ≤ hs_N σ141 := by rw [hs_nA_N h142]; exact Nat.le_succ_of_le hN0
  obtain ⟨σ147, h146, hf⟩ := hs_bi hf
  refine x_putRsF hx hb hts inX8_init_X8 tyX8_ok nmX8 hown hK hB hS (by decide) rfl (k := 31) (by decide) rfl h146 (hts _ lkX8_init_25) (fun _ h9 => h9) rfl hnm rfl (ty := .array .boolean) (by decide +kernel) rfl rfl dX8_init_178 (fun H locs hB hS => ?_)
  have hN0 : N0 ≤ hs_N σ147 := by rw [hs_pR_N h146]; exact hN0
  refine lv_aload_n hx hb dX8_init_181 rfl (lv_at hl 0 rfl) ?_
  refine lv_bipush (v := 45) hx hb dX8_init_182 (by decide) ?_
  obtain ⟨_, h152, hf⟩ := hs_bi hf
  obtain ⟨σ148, h149, hf⟩ := hs_bi hf
  refine hs_newI (mx := 45) hx hb (hts _ lkX8_init_3) hK hB hS hA (by decide) h149 (Nat.le_of_ble_eq_true rfl) (Nat.le_of_ble_eq_true rfl) dX8_init_184 (fun ad150 H g151 hB hS => ?_)
  have hem : ad150 hs_em = X.2.2.1.2.2.2 := (g151 _ (Or.inr rfl)).trans hem
  have hag := hs_agt hag hN0 g151
  have hl : lv_has ls 1 [(0, .ref (ad150 o))] := by rw [g151 o (Or.inl (hs_lv_i h152 _ (List.mem_of_getElem? (i := 0) rfl)))]; exact hl
  refine W.eq (g2 := F0 m 186 ls [.ref (ad150 (hs_N σ147)), .ref (ad150 o)]) (by rw [g151 o (Or.inl (hs_lv_i h152 _ (List.mem_of_getElem? (i := 0) rfl)))] <;> rfl) ?_
  have hN0 : N0 ≤ hs_N σ148 := by rw [hs_nA_N h149]; exact Nat.le_succ_of_le hN0
  obtain ⟨σ154, h153, hf⟩ := hs_bi hf
  refine x_putRsF hx hb hts inX8_init_X8 tyX8_ok nmX8 hown hK hB hS (by decide) rfl (k := 32) (by decide) rfl h153 (hts _ lkX8_init_26) (fun _ h9 => h9) rfl hnm rfl (ty := .array .int) (by decide +kernel) rfl rfl dX8_init_186 (fun H locs hB hS => ?_)
  have hN0 : N0 ≤ hs_N σ154 := by rw [hs_pR_N h153]; exact hN0
  refine lv_aload_n hx hb dX8_init_189 rfl (lv_at hl 0 rfl) ?_
  refine lv_bipush (v := 45) hx hb dX8_init_190 (by decide) ?_
  obtain ⟨_, h159, hf⟩ := hs_bi hf
  obtain ⟨σ155, h156, hf⟩ := hs_bi hf
  refine hs_newI (mx := 45) hx hb (hts _ lkX8_init_3) hK hB hS hA (by decide) h156 (Nat.le_of_ble_eq_true rfl) (Nat.le_of_ble_eq_true rfl) dX8_init_192 (fun ad157 H g158 hB hS => ?_)
  have hem : ad157 hs_em = X.2.2.1.2.2.2 := (g158 _ (Or.inr rfl)).trans hem
  have hag := hs_agt hag hN0 g158
  have hl : lv_has ls 1 [(0, .ref (ad157 o))] := by rw [g158 o (Or.inl (hs_lv_i h159 _ (List.mem_of_getElem? (i := 0) rfl)))]; exact hl
  refine W.eq (g2 := F0 m 194 ls [.ref (ad157 (hs_N σ154)), .ref (ad157 o)]) (by rw [g158 o (Or.inl (hs_lv_i h159 _ (List.mem_of_getElem? (i := 0) rfl)))] <;> rfl) ?_
  have hN0 : N0 ≤ hs_N σ155 := by rw [hs_nA_N h156]; exact Nat.le_succ_of_le hN0
  obtain ⟨σ161, h160, hf⟩ := hs_bi hf
  refine x_putRsF hx hb hts inX8_init_X8 tyX8_ok nmX8 hown hK hB hS (by decide) rfl (k := 33) (by decide) rfl h160 (hts _ lkX8_init_27) (fun _ h9 => h9) rfl hnm rfl (ty := .array .int) (by decide +kernel) rfl rfl dX8_init_194 (fun H locs hB hS => ?_)
  have hN0 : N0 ≤ hs_N σ161 := by rw [hs_pR_N h160]; exact hN0
  refine lv_aload_n hx hb dX8_init_197 rfl (lv_at hl 0 rfl) ?_
  refine lv_bipush (v := 45) hx hb dX8_init_198 (by decide) ?_
  obtain ⟨_, h166, hf⟩ := hs_bi hf
  obtain ⟨σ162, h163, hf⟩ := hs_bi hf
  refine hs_newI (mx := 45) hx hb (hts _ lkX8_init_3) hK hB hS hA (by decide) h163 (Nat.le_of_ble_eq_true rfl) (Nat.le_of_ble_eq_true rfl) dX8_init_200 (fun ad164 H g165 hB hS => ?_)
  have hem : ad164 hs_em = X.2.2.1.2.2.2 := (g165 _ (Or.inr rfl)).trans hem
  have hag := hs_agt hag hN0 g165
  have hl : lv_has ls 1 [(0, .ref (ad164 o))] := by rw [g165 o (Or.inl (hs_lv_i h166 _ (List.mem_of_getElem? (i := 0) rfl)))]; exact hl
  refine W.eq (g2 := F0 m 202 ls [.ref (ad164 (hs_N σ161)), .ref (ad164 o)]) (by rw [g165 o (Or.inl (hs_lv_i h166 _ (List.mem_of_getElem? (i := 0) rfl)))] <;> rfl) ?_
  have hN0 : N0 ≤ hs_N σ162 := by rw [hs_nA_N h163]; exact Nat.le_succ_of_le hN0
  obtain ⟨σ168, h167, hf⟩ := hs_bi hf
  refine x_putRsF hx hb hts inX8_init_X8 tyX8_ok nmX8 hown hK hB hS (by decide) rfl (k := 34) (by decide) rfl h167 (hts _ lkX8_init_28) (fun _ h9 => h9) rfl hnm rfl (ty := .array .int) (by decide +kernel) rfl rfl dX8_init_202 (fun H locs hB hS => ?_)
  have hN0 : N0 ≤ hs_N σ168 := by rw [hs_pR_N h167]; exact hN0
  refine lv_aload_n hx hb dX8_init_205 rfl (lv_at hl 0 rfl) ?_
  refine lv_bipush (v := 45) hx hb dX8_init_206 (by decide) ?_
  obtain ⟨_, h173, hf⟩ := hs_bi hf
  obtain ⟨σ169, h170, hf⟩ := hs_bi hf
  refine hs_newI (mx := 45) hx hb (hts _ lkX8_init_3) hK hB hS hA (by decide) h170 (Nat.le_of_ble_eq_true rfl) (Nat.le_of_ble_eq_true rfl) dX8_init_208 (fun ad171 H g172 hB hS => ?_)
  have hem : ad171 hs_em = X.2.2.1.2.2.2 := (g172 _ (Or.inr rfl)).trans hem
  have hag := hs_agt hag hN0 g172
  have hl : lv_has ls 1 [(0, .ref (ad171 o))] := by rw [g172 o (Or.inl (hs_lv_i h173 _ (List.mem_of_getElem? (i := 0) rfl)))]; exact hl
  refine W.eq (g2 := F0 m 210 ls [.ref (ad171 (hs_N σ168)), .ref (ad171 o)]) (by rw [g172 o (Or.inl (hs_lv_i h173 _ (List.mem_of_getElem? (i := 0) rfl)))] <;> rfl) ?_
  have hN0 : N0 ≤ hs_N σ169 := by rw [hs_nA_N h170]; exact Nat.le_succ_of_le hN0
  obtain ⟨σ175, h174, hf⟩ := hs_bi hf
  refine x_putRsF hx hb hts inX8_init_X8 tyX8_ok nmX8 hown hK hB hS (by decide) rfl (k := 35) (by decide) rfl h174 (hts _ lkX8_init_29) (fun _ h9 => h9) rfl hnm rfl (ty := .array .int) (by decide +kernel) rfl rfl dX8_init_210 (fun H locs hB hS => ?_)
  have hN0 : N0 ≤ hs_N σ175 := by rw [hs_pR_N h174]; exact hN0
  refine lv_aload_n hx hb dX8_init_213 rfl (lv_at hl 0 rfl) ?_
  refine lv_bipush (v := 18) hx hb dX8_init_214 (by decide) ?_
  obtain ⟨_, h180, hf⟩ := hs_bi hf
  obtain ⟨σ176, h177, hf⟩ := hs_bi hf
  refine hs_newI (mx := 18) hx hb (hts _ lkX8_init_3) hK hB hS hA (by decide) h177 (Nat.le_of_ble_eq_true rfl) (Nat.le_of_ble_eq_true rfl) dX8_init_216 (fun ad178 H g179 hB hS => ?_)
  have hem : ad178 hs_em = X.2.2.1.2.2.2 := (g179 _ (Or.inr rfl)).trans hem
  have hag := hs_agt hag hN0 g179
  have hl : lv_has ls 1 [(0, .ref (ad178 o))] := by rw [g179 o (Or.inl (hs_lv_i h180 _ (List.mem_of_getElem? (i := 0) rfl)))]; exact hl
  refine W.eq (g2 := F0 m 218 ls [.ref (ad178 (hs_N σ175)), .ref (ad178 o)]) (by rw [g179 o (Or.inl (hs_lv_i h180 _ (List.mem_of_getElem? (i := 0) rfl)))] <;> rfl) ?_
  have hN0 : N0 ≤ hs_N σ176 := by rw [hs_nA_N h177]; exact Nat.le_succ_of_le hN0
  refine lv_dup hx hb dX8_init_218 rfl ?_
  refine lv_iconst (v := 0) hx hb dX8_init_219 (by decide) ?_
  refine lv_iconst (v := 0) hx hb dX8_init_220 (by decide) ?_
  obtain ⟨σ181, h182, hf⟩ := hs_bi hf
  refine x_iast hx hb hK hB hS h182 dX8_init_221 (fun H locs hB hS => ?_)
  have hN0 : N0 ≤ hs_N σ181 := by rw [hs_st_N h182]; exact hN0
  refine lv_dup hx hb dX8_init_222 rfl ?_
  refine lv_iconst (v := 1) hx hb dX8_init_223 (by decide) ?_
  refine lv_iconst (v := 1) hx hb dX8_init_224 (by decide) ?_
  obtain ⟨σ183, h184, hf⟩ := hs_bi hf
  refine x_iast hx hb hK hB hS h184 dX8_init_225 (fun H locs hB hS => ?_)
  have hN0 : N0 ≤ hs_N σ183 := by rw [hs_st_N h184]; exact hN0
  refine lv_dup hx hb dX8_init_226 rfl ?_
  refine lv_iconst (v := 2) hx hb dX8_init_227 (by decide) ?_
  refine lv_iconst (v := 2) hx hb dX8_init_228 (by decide) ?_
  obtain ⟨σ185, h186, hf⟩ := hs_bi hf
  refine x_iast hx hb hK hB hS h186 dX8_init_229 (fun H locs hB hS => ?_)
  have hN0 : N0 ≤ hs_N σ185 := by rw [hs_st_N h186]; exact hN0
  refine lv_dup hx hb dX8_init_230 rfl ?_
  refine lv_iconst (v := 3) hx hb dX8_init_231 (by decide) ?_
  refine lv_iconst (v := 0) hx hb dX8_init_232 (by decide) ?_
  obtain ⟨σ187, h188, hf⟩ := hs_bi hf
  refine x_iast hx hb hK hB hS h188 dX8_init_233 (fun H locs hB hS => ?_)
  have hN0 : N0 ≤ hs_N σ187 := by rw [hs_st_N h188]; exact hN0
  refine lv_dup hx hb dX8_init_234 rfl ?_
  refine lv_iconst (v := 4) hx hb dX8_init_235 (by decide) ?_
  refine lv_iconst (v := 2) hx hb dX8_init_236 (by decide) ?_
  obtain ⟨σ189, h190, hf⟩ := hs_bi hf
  refine x_iast hx hb hK hB hS h190 dX8_init_237 (fun H locs hB hS => ?_)
  have hN0 : N0 ≤ hs_N σ189 := by rw [hs_st_N h190]; exact hN0
  refine lv_dup hx hb dX8_init_238 rfl ?_
  refine lv_iconst (v := 5) hx hb dX8_init_239 (by decide) ?_
  refine lv_iconst (v := 1) hx hb dX8_init_240 (by decide) ?_
  obtain ⟨σ191, h192, hf⟩ := hs_bi hf
  refine x_iast hx hb hK hB hS h192 dX8_init_241 (fun H locs hB hS => ?_)
  have hN0 : N0 ≤ hs_N σ191 := by rw [hs_st_N h192]; exact hN0
  refine lv_dup hx hb dX8_init_242 rfl ?_
  refine lv_bipush (v := 6) hx hb dX8_init_243 (by decide) ?_
  refine lv_iconst (v := 1) hx hb dX8_init_245 (by decide) ?_
  obtain ⟨σ193, h194, hf⟩ := hs_bi hf
  refine x_iast hx hb hK hB hS h194 dX8_init_246 (fun H locs hB hS => ?_)
  have hN0 : N0 ≤ hs_N σ193 := by rw [hs_st_N h194]; exact hN0
  refine lv_dup hx hb dX8_init_247 rfl ?_
  refine lv_bipush (v := 7) hx hb dX8_init_248 (by decide) ?_
  refine lv_iconst (v := 0) hx hb dX8_init_250 (by decide) ?_
  obtain ⟨σ195, h196, hf⟩ := hs_bi hf
  refine x_iast hx hb hK hB hS h196 dX8_init_251 (fun H locs hB hS => ?_)
  have hN0 : N0 ≤ hs_N σ195 := by rw [hs_st_N h196]; exact hN0
  refine lv_dup hx hb dX8_init_252 rfl ?_
  refine lv_bipush (v := 8) hx hb dX8_init_253 (by decide) ?_
  refine lv_iconst (v := 2) hx hb dX8_init_255 (by decide) ?_
  obtain ⟨σ197, h198, hf⟩ := hs_bi hf
  refine x_iast hx hb hK hB hS h198 dX8_init_256 (fun H locs hB hS => ?_)
  have hN0 : N0 ≤ hs_N σ197 := by rw [hs_st_N h198]; exact hN0
  refine lv_dup hx hb dX8_init_257 rfl ?_
  refine lv_bipush (v := 9) hx hb dX8_init_258 (by decide) ?_
  refine lv_iconst (v := 1) hx hb dX8_init_260 (by decide) ?_
  obtain ⟨σ199, h200, hf⟩ := hs_bi hf
  refine x_iast hx hb hK hB hS h200 dX8_init_261 (fun H locs hB hS => ?_)
  have hN0 : N0 ≤ hs_N σ199 := by rw [hs_st_N h200]; exact hN0
  refine lv_dup hx hb dX8_init_262 rfl ?_
  refine lv_bipush (v := 10) hx hb dX8_init_263 (by decide) ?_
  refine lv_iconst (v := 2) hx hb dX8_init_265 (by decide) ?_
  obtain ⟨σ201, h202, hf⟩ := hs_bi hf
  refine x_iast hx hb hK hB hS h202 dX8_init_266 (fun H locs hB hS => ?_)
  have hN0 : N0 ≤ hs_N σ201 := by rw [hs_st_N h202]; exact hN0
  refine lv_dup hx hb dX8_init_267 rfl ?_
  refine lv_bipush (v := 11) hx hb dX8_init_268 (by decide) ?_
  refine lv_iconst (v := 0) hx hb dX8_init_270 (by decide) ?_
  obtain ⟨σ203, h204, hf⟩ := hs_bi hf
  refine x_iast hx hb hK hB hS h204 dX8_init_271 (fun H locs hB hS => ?_)
  have hN0 : N0 ≤ hs_N σ203 := by rw [hs_st_N h204]; exact hN0
  refine lv_dup hx hb dX8_init_272 rfl ?_
  refine lv_bipush (v := 12) hx hb dX8_init_273 (by decide) ?_
  refine lv_iconst (v := 2) hx hb dX8_init_275 (by decide) ?_
  obtain ⟨σ205, h206, hf⟩ := hs_bi hf
  refine x_iast hx hb hK hB hS h206 dX8_init_276 (fun H locs hB hS => ?_)
  have hN0 : N0 ≤ hs_N σ205 := by rw [hs_st_N h206]; exact hN0
  refine lv_dup hx hb dX8_init_277 rfl ?_
  refine lv_bipush (v := 13) hx hb dX8_init_278 (by decide) ?_
  refine lv_iconst (v := 0) hx hb dX8_init_280 (by decide) ?_
  obtain ⟨σ207, h208, hf⟩ := hs_bi hf
  refine x_iast hx hb hK hB hS h208 dX8_init_281 (fun H locs hB hS => ?_)
  have hN0 : N0 ≤ hs_N σ207 := by rw [hs_st_N h208]; exact hN0
  refine lv_dup hx hb dX8_init_282 rfl ?_
  refine lv_bipush (v := 14) hx hb dX8_init_283 (by decide) ?_
  refine lv_iconst (v := 1) hx hb dX8_init_285 (by decide) ?_
  obtain ⟨σ209, h210, hf⟩ := hs_bi hf
  refine x_iast hx hb hK hB hS h210 dX8_init_286 (fun H locs hB hS => ?_)
  have hN0 : N0 ≤ hs_N σ209 := by rw [hs_st_N h210]; exact hN0
  refine lv_dup hx hb dX8_init_287 rfl ?_
  refine lv_bipush (v := 15) hx hb dX8_init_288 (by decide) ?_
  refine lv_iconst (v := 2) hx hb dX8_init_290 (by decide) ?_
  obtain ⟨σ211, h212, hf⟩ := hs_bi hf
  refine x_iast hx hb hK hB hS h212 dX8_init_291 (fun H locs hB hS => ?_)
  have hN0 : N0 ≤ hs_N σ211 := by rw [hs_st_N h212]; exact hN0
  refine lv_dup hx hb dX8_init_292 rfl ?_
  refine lv_bipush (v := 16) hx hb dX8_init_293 (by decide) ?_
  refine lv_iconst (v := 1) hx hb dX8_init_295 (by decide) ?_
  obtain ⟨σ213, h214, hf⟩ := hs_bi hf
  refine x_iast hx hb hK hB hS h214 dX8_init_296 (fun H locs hB hS => ?_)
  have hN0 : N0 ≤ hs_N σ213 := by rw [hs_st_N h214]; exact hN0
  refine lv_dup hx hb dX8_init_297 rfl ?_
  refine lv_bipush (v := 17) hx hb dX8_init_298 (by decide) ?_
  refine lv_iconst (v := 0) hx hb dX8_init_300 (by decide) ?_
  obtain ⟨σ215, h216, hf⟩ := hs_bi hf
  refine x_iast hx hb hK hB hS h216 dX8_init_301 (fun H locs hB hS => ?_)
  have hN0 : N0 ≤ hs_N σ215 := by rw [hs_st_N h216]; exact hN0
  obtain ⟨σ218, h217, hf⟩ := hs_bi hf
  refine x_putRsF hx hb hts inX8_init_X8 tyX8_ok nmX8 hown hK hB hS (by decide) rfl (k := 36) (by decide) rfl h217 (hts _ lkX8_init_30) (fun _ h9 => h9) rfl hnm rfl (ty := .array .int) (by decide +kernel) rfl rfl dX8_init_302 (fun H locs hB hS => ?_)
  have hN0 : N0 ≤ hs_N σ218 := by rw [hs_pR_N h217]; exact hN0
  refine lv_aload_n hx hb dX8_init_305 rfl (lv_at hl 0 rfl) ?_
  refine lv_sipush (v := 7500) hx hb dX8_init_306 (by decide) ?_
  obtain ⟨_, h223, hf⟩ := hs_bi hf
  obtain ⟨σ219, h220, hf⟩ := hs_bi hf
  refine hs_newI (mx := 7500) hx hb (hts _ lkX8_init_3) hK hB hS hA (by decide) h220 (Nat.le_of_ble_eq_true rfl) (Nat.le_of_ble_eq_true rfl) dX8_init_309 (fun ad221 H g222 hB hS => ?_)
  have hem : ad221 hs_em = X.2.2.1.2.2.2 := (g222 _ (Or.inr rfl)).trans hem
  have hag := hs_agt hag hN0 g222
  have hl : lv_has ls 1 [(0, .ref (ad221 o))] := by rw [g222 o (Or.inl (hs_lv_i h223 _ (List.mem_of_getElem? (i := 0) rfl)))]; exact hl
  refine W.eq (g2 := F0 m 311 ls [.ref (ad221 (hs_N σ218)), .ref (ad221 o)]) (by rw [g222 o (Or.inl (hs_lv_i h223 _ (List.mem_of_getElem? (i := 0) rfl)))] <;> rfl) ?_
  have hN0 : N0 ≤ hs_N σ219 := by rw [hs_nA_N h220]; exact Nat.le_succ_of_le hN0
  obtain ⟨σ225, h224, hf⟩ := hs_bi hf
  refine x_putRsF hx hb hts inX8_init_X8 tyX8_ok nmX8 hown hK hB hS (by decide) rfl (k := 37) (by decide) rfl h224 (hts _ lkX8_init_31) (fun _ h9 => h9) rfl hnm rfl (ty := .array .int) (by decide +kernel) rfl rfl dX8_init_311 (fun H locs hB hS => ?_)
  have hN0 : N0 ≤ hs_N σ225 := by rw [hs_pR_N h224]; exact hN0
  refine lv_aload_n hx hb dX8_init_314 rfl (lv_at hl 0 rfl) ?_
  refine lv_iconst (v := 5) hx hb dX8_init_315 (by decide) ?_
  obtain ⟨_, h230, hf⟩ := hs_bi hf
  obtain ⟨σ226, h227, hf⟩ := hs_bi hf
  refine hs_newI (mx := 5) hx hb (hts _ lkX8_init_3) hK hB hS hA (by decide) h227 (Nat.le_of_ble_eq_true rfl) (Nat.le_of_ble_eq_true rfl) dX8_init_316 (fun ad228 H g229 hB hS => ?_)
  have hem : ad228 hs_em = X.2.2.1.2.2.2 := (g229 _ (Or.inr rfl)).trans hem
  have hag := hs_agt hag hN0 g229
  have hl : lv_has ls 1 [(0, .ref (ad228 o))] := by rw [g229 o (Or.inl (hs_lv_i h230 _ (List.mem_of_getElem? (i := 0) rfl)))]; exact hl
  refine W.eq (g2 := F0 m 318 ls [.ref (ad228 (hs_N σ225)), .ref (ad228 o)]) (by rw [g229 o (Or.inl (hs_lv_i h230 _ (List.mem_of_getElem? (i := 0) rfl)))] <;> rfl) ?_
  have hN0 : N0 ≤ hs_N σ226 := by rw [hs_nA_N h227]; exact Nat.le_succ_of_le hN0
  obtain ⟨σ232, h231, hf⟩ := hs_bi hf
  refine x_putRsF hx hb hts inX8_init_X8 tyX8_ok nmX8 hown hK hB hS (by decide) rfl (k := 39) (by decide) rfl h231 (hts _ lkX8_init_32) (fun _ h9 => h9) rfl hnm rfl (ty := .array .int) (by decide +kernel) rfl rfl dX8_init_318 (fun H locs hB hS => ?_)
  have hN0 : N0 ≤ hs_N σ232 := by rw [hs_pR_N h231]; exact hN0
  refine lv_aload_n hx hb dX8_init_321 rfl (lv_at hl 0 rfl) ?_
  refine lv_iconst (v := 5) hx hb dX8_init_322 (by decide) ?_
  obtain ⟨_, h237, hf⟩ := hs_bi hf
  obtain ⟨σ233, h234, hf⟩ := hs_bi hf
  refine hs_newI (mx := 5) hx hb (hts _ lkX8_init_3) hK hB hS hA (by decide) h234 (Nat.le_of_ble_eq_true rfl) (Nat.le_of_ble_eq_true rfl) dX8_init_323 (fun ad235 H g236 hB hS => ?_)
  have hem : ad235 hs_em = X.2.2.1.2.2.2 := (g236 _ (Or.inr rfl)).trans hem
  have hag := hs_agt hag hN0 g236
  have hl : lv_has ls 1 [(0, .ref (ad235 o))] := by rw [g236 o (Or.inl (hs_lv_i h237 _ (List.mem_of_getElem? (i := 0) rfl)))]; exact hl
  refine W.eq (g2 := F0 m 325 ls [.ref (ad235 (hs_N σ232)), .ref (ad235 o)]) (by rw [g236 o (Or.inl (hs_lv_i h237 _ (List.mem_of_getElem? (i := 0) rfl)))] <;> rfl) ?_
  have hN0 : N0 ≤ hs_N σ233 := by rw [hs_nA_N h234]; exact Nat.le_succ_of_le hN0
  obtain ⟨σ239, h238, hf⟩ := hs_bi hf
  refine x_putRsF hx hb hts inX8_init_X8 tyX8_ok nmX8 hown hK hB hS (by decide) rfl (k := 40) (by decide) rfl h238 (hts _ lkX8_init_33) (fun _ h9 => h9) rfl hnm rfl (ty := .array .int) (by decide +kernel) rfl rfl dX8_init_325 (fun H locs hB hS => ?_)
  have hN0 : N0 ≤ hs_N σ239 := by rw [hs_pR_N h238]; exact hN0
  refine lv_aload_n hx hb dX8_init_328 rfl (lv_at hl 0 rfl) ?_
  refine lv_iconst (v := 5) hx hb dX8_init_329 (by decide) ?_
  obtain ⟨_, h244, hf⟩ := hs_bi hf
  obtain ⟨σ240, h241, hf⟩ := hs_bi hf
  refine hs_newI (mx := 5) hx hb (hts _ lkX8_init_3) hK hB hS hA (by decide) h241 (Nat.le_of_ble_eq_true rfl) (Nat.le_of_ble_eq_true rfl) dX8_init_330 (fun ad242 H g243 hB hS => ?_)
  have hem : ad242 hs_em = X.2.2.1.2.2.2 := (g243 _ (Or.inr rfl)).trans hem
  have hag := hs_agt hag hN0 g243
  have hl : lv_has ls 1 [(0, .ref (ad242 o))] := by rw [g243 o (Or.inl (hs_lv_i h244 _ (List.mem_of_getElem? (i := 0) rfl)))]; exact hl
  refine W.eq (g2 := F0 m 332 ls [.ref (ad242 (hs_N σ239)), .ref (ad242 o)]) (by rw [g243 o (Or.inl (hs_lv_i h244 _ (List.mem_of_getElem? (i := 0) rfl)))] <;> rfl) ?_
  have hN0 : N0 ≤ hs_N σ240 := by rw [hs_nA_N h241]; exact Nat.le_succ_of_le hN0
  obtain ⟨σ246, h245, hf⟩ := hs_bi hf
  refine x_putRsF hx hb hts inX8_init_X8 tyX8_ok nmX8 hown hK hB hS (by decide) rfl (k := 41) (by decide) rfl h245 (hts _ lkX8_init_34) (fun _ h9 => h9) rfl hnm rfl (ty := .array .int) (by decide +kernel) rfl rfl dX8_init_332 (fun H locs hB hS => ?_)
  have hN0 : N0 ≤ hs_N σ246 := by rw [hs_pR_N h245]; exact hN0
  refine lv_aload_n hx hb dX8_init_335 rfl (lv_at hl 0 rfl) ?_
  refine lv_iconst (v := 5) hx hb dX8_init_336 (by decide) ?_
  obtain ⟨_, h251, hf⟩ := hs_bi hf
  obtain ⟨σ247, h248, hf⟩ := hs_bi hf
  refine hs_newI (mx := 5) hx hb (hts _ lkX8_init_3) hK hB hS hA (by decide) h248 (Nat.le_of_ble_eq_true rfl) (Nat.le_of_ble_eq_true rfl) dX8_init_337 (fun ad249 H g250 hB hS => ?_)
  have hem : ad249 hs_em = X.2.2.1.2.2.2 := (g250 _ (Or.inr rfl)).trans hem
  have hag := hs_agt hag hN0 g250
  have hl : lv_has ls 1 [(0, .ref (ad249 o))] := by rw [g250 o (Or.inl (hs_lv_i h251 _ (List.mem_of_getElem? (i := 0) rfl)))]; exact hl
  refine W.eq (g2 := F0 m 339 ls [.ref (ad249 (hs_N σ246)), .ref (ad249 o)]) (by rw [g250 o (Or.inl (hs_lv_i h251 _ (List.mem_of_getElem? (i := 0) rfl)))] <;> rfl) ?_
  have hN0 : N0 ≤ hs_N σ247 := by rw [hs_nA_N h248]; exact Nat.le_succ_of_le hN0
  obtain ⟨σ253, h252, hf⟩ := hs_bi hf
  refine x_putRsF hx hb hts inX8_init_X8 tyX8_ok nmX8 hown hK hB hS (by decide) rfl (k := 42) (by decide) rfl h252 (hts _ lkX8_init_35) (fun _ h9 => h9) rfl hnm rfl (ty := .array .int) (by decide +kernel) rfl rfl dX8_init_339 (fun H locs hB hS => ?_)
  have hN0 : N0 ≤ hs_N σ253 := by rw [hs_pR_N h252]; exact hN0
  refine lv_aload_n hx hb dX8_init_342 rfl (lv_at hl 0 rfl) ?_
  obtain ⟨n255, h254, hf⟩ := hs_bi hf
  refine x_getN hx hb hts inX8_init_X8 hown hK hB (by decide) rfl (k := 17) (by decide) rfl h254 (hts _ lkX8_init_17) (fun _ h9 => h9) dX8_init_343 ?_
  refine lv_iconst (v := 0) hx hb dX8_init_346 (by decide) ?_
  refine lv_bipush (v := 60) hx hb dX8_init_347 (by decide) ?_
  obtain ⟨σ256, h257, hf⟩ := hs_bi hf
  refine x_iast hx hb hK hB hS h257 dX8_init_349 (fun H locs hB hS => ?_)
  have hN0 : N0 ≤ hs_N σ256 := by rw [hs_st_N h257]; exact hN0
  refine lv_aload_n hx hb dX8_init_350 rfl (lv_at hl 0 rfl) ?_
  obtain ⟨n259, h258, hf⟩ := hs_bi hf
  refine x_getN hx hb hts inX8_init_X8 hown hK hB (by decide) rfl (k := 17) (by decide) rfl h258 (hts _ lkX8_init_17) (fun _ h9 => h9) dX8_init_351 ?_
  refine lv_iconst (v := 2) hx hb dX8_init_354 (by decide) ?_
  refine lv_iconst (v := 3) hx hb dX8_init_355 (by decide) ?_
  obtain ⟨σ260, h261, hf⟩ := hs_bi hf
  refine x_iast hx hb hK hB hS h261 dX8_init_356 (fun H locs hB hS => ?_)
  have hN0 : N0 ≤ hs_N σ260 := by rw [hs_st_N h261]; exact hN0
  refine lv_aload_n hx hb dX8_init_357 rfl (lv_at hl 0 rfl) ?_
  obtain ⟨n263, h262, hf⟩ := hs_bi hf
  refine x_getN hx hb hts inX8_init_X8 hown hK hB (by decide) rfl (k := 17) (by decide) rfl h262 (hts _ lkX8_init_17) (fun _ h9 => h9) dX8_init_358 ?_
  refine lv_iconst (v := 3) hx hb dX8_init_361 (by decide) ?_
  refine lv_bipush (v := 100) hx hb dX8_init_362 (by decide) ?_
  obtain ⟨σ264, h265, hf⟩ := hs_bi hf
  refine x_iast hx hb hK hB hS h265 dX8_init_364 (fun H locs hB hS => ?_)
  have hN0 : N0 ≤ hs_N σ264 := by rw [hs_st_N h265]; exact hN0
  refine lv_aload_n hx hb dX8_init_365 rfl (lv_at hl 0 rfl) ?_
  obtain ⟨n267, h266, hf⟩ := hs_bi hf
  refine x_getN hx hb hts inX8_init_X8 hown hK hB (by decide) rfl (k := 17) (by decide) rfl h266 (hts _ lkX8_init_17) (fun _ h9 => h9) dX8_init_366 ?_
  refine lv_iconst (v := 4) hx hb dX8_init_369 (by decide) ?_
  refine lv_iconst (v := 1) hx hb dX8_init_370 (by decide) ?_
  obtain ⟨σ268, h269, hf⟩ := hs_bi hf
  refine x_iast hx hb hK hB hS h269 dX8_init_371 (fun H locs hB hS => ?_)
  have hN0 : N0 ≤ hs_N σ268 := by rw [hs_st_N h269]; exact hN0
  refine lv_aload_n hx hb dX8_init_372 rfl (lv_at hl 0 rfl) ?_
  obtain ⟨n271, h270, hf⟩ := hs_bi hf
  refine x_getN hx hb hts inX8_init_X8 hown hK hB (by decide) rfl (k := 17) (by decide) rfl h270 (hts _ lkX8_init_17) (fun _ h9 => h9) dX8_init_373 ?_
  refine lv_iconst (v := 5) hx hb dX8_init_376 (by decide) ?_
  refine lv_iconst (v := 1) hx hb dX8_init_377 (by decide) ?_
  obtain ⟨σ272, h273, hf⟩ := hs_bi hf
  refine x_iast hx hb hK hB hS h273 dX8_init_378 (fun H locs hB hS => ?_)
  have hN0 : N0 ≤ hs_N σ272 := by rw [hs_st_N h273]; exact hN0
  refine lv_aload_n hx hb dX8_init_379 rfl (lv_at hl 0 rfl) ?_
  obtain ⟨n275, h274, hf⟩ := hs_bi hf
  refine x_getN hx hb hts inX8_init_X8 hown hK hB (by decide) rfl (k := 17) (by decide) rfl h274 (hts _ lkX8_init_17) (fun _ h9 => h9) dX8_init_380 ?_
  refine lv_bipush (v := 6) hx hb dX8_init_383 (by decide) ?_
  refine lv_iconst (v := 1) hx hb dX8_init_385 (by decide) ?_
  obtain ⟨σ276, h277, hf⟩ := hs_bi hf
  refine x_iast hx hb hK hB hS h277 dX8_init_386 (fun H locs hB hS => ?_)
  have hN0 : N0 ≤ hs_N σ276 := by rw [hs_st_N h277]; exact hN0
  obtain ⟨rfl, rfl⟩ := hs_ri hf
  refine W.widen (k := 31) (n := 13460) (Nat.le_of_ble_eq_true rfl) (Nat.le_of_ble_eq_true rfl) ?_
  exact hs_vret1 hx hb hr hlk hag hB hS dX8_init_387
end SX8_init
set_option maxRecDepth 100000 in
theorem ctX8_init (l : Launch) (fu : Nat) (σ : hs_T) (o : Nat) : hs_C1 hs_tvv l yX8_init wsX8_init rmX8_init 31 13460 (fun ad => [.ref (ad o)]) σ (fX8_init fu σ o) := by
  intro X ad sz r τ hf
  refine hs_enter (cc := cX8_init) (maxL := 1) (ret := none) (by decide) rfl (Nat.le_of_ble_eq_true rfl) ?_
  intro p e s m below meth c ls C hl hem hB hS hsz
  exact wX8_init_e fu C hem σ o hf hB hS hl rfl
