/-! ServiceGame.<init>()V -/
abbrev rmX7_init : Room := { frames := 4, cells := 16, slots := 1418, locals := 72 }
theorem inX7_init_Jx4a65c : ∀ w ∈ wsJx4a65c0, w ∈ wsX7_init := fun _ h => List.mem_cons_of_mem _ (List.mem_append_left _ (List.mem_append_left _ (List.mem_append_left _ (List.mem_append_left _ (List.mem_append_right _ h)))))
theorem inX7_init_X1 : ∀ w ∈ wsX10, w ∈ wsX7_init := fun _ h => List.mem_cons_of_mem _ (List.mem_append_left _ (List.mem_append_right _ h))
theorem inX7_init_X2 : ∀ w ∈ wsX20, w ∈ wsX7_init := fun _ h => List.mem_cons_of_mem _ (List.mem_append_right _ h)
theorem inX7_init_X4 : ∀ w ∈ wsX40, w ∈ wsX7_init := fun _ h => List.mem_cons_of_mem _ (List.mem_append_left _ (List.mem_append_left _ (List.mem_append_right _ h)))
theorem inX7_init_X6 : ∀ w ∈ wsX60, w ∈ wsX7_init := fun _ h => List.mem_cons_of_mem _ (List.mem_append_left _ (List.mem_append_left _ (List.mem_append_left _ (List.mem_append_right _ h))))
theorem inX7_init_X7 : ∀ w ∈ wsX70, w ∈ wsX7_init := fun _ h => List.mem_cons_of_mem _ (List.mem_append_left _ (List.mem_append_left _ (List.mem_append_left _ (List.mem_append_left _ (List.mem_append_left _ (List.mem_append_right _ h))))))
theorem lkX7_init_0 : Cond.code objectInit ⟨#[0xb1]⟩ 1 none ∈ wsX7_init := by decide +kernel
theorem lkX7_init_1 : Cond.methodLink RX7 1 objectInit ∈ wsX7_init := by decide +kernel
theorem lkX7_init_2 : Cond.instanceMethod objectInit ∈ wsX7_init := by decide +kernel
theorem lkX7_init_3 : Cond.arrayClass .int ∈ wsX7_init := by decide +kernel
theorem lkX7_init_4 : Cond.fieldLink RX7 7 "ServiceGame" "settings" "[I" ∈ wsX7_init := by decide +kernel
theorem lkX7_init_5 : Cond.classLink RX7 13 RJx4a65c ∈ wsX7_init := by decide +kernel
theorem lkX7_init_6 : Cond.instantiable RJx4a65c 3 ∈ wsX7_init := by decide +kernel
theorem lkX7_init_7 : Cond.initialized RJx4a65c ∈ wsX7_init := by decide +kernel
theorem lkX7_init_8 : Cond.methodLink RX7 15 yJx4a65c_init_da8c8 ∈ wsX7_init := by decide +kernel
theorem lkX7_init_9 : Cond.instanceMethod yJx4a65c_init_da8c8 ∈ wsX7_init := by decide +kernel
theorem lkX7_init_10 : Cond.fieldLink RX7 16 "ServiceGame" "services" "Ljava/util/ArrayList;" ∈ wsX7_init := by decide +kernel
theorem lkX7_init_11 : Cond.fieldLink RX7 20 "ServiceGame" "log" "Ljava/util/ArrayList;" ∈ wsX7_init := by decide +kernel
theorem lkX7_init_12 : Cond.classLink RX7 23 RX6 ∈ wsX7_init := by decide +kernel
theorem lkX7_init_13 : Cond.instantiable RX6 2 ∈ wsX7_init := by decide +kernel
theorem lkX7_init_14 : Cond.initialized RX6 ∈ wsX7_init := by decide +kernel
theorem lkX7_init_15 : Cond.instanceMethod yX6_init ∈ wsX7_init := by decide +kernel
theorem lkX7_init_16 : Cond.fieldLink RX7 26 "ServiceGame" "tape" "LServiceGame$Tape;" ∈ wsX7_init := by decide +kernel
theorem lkX7_init_17 : Cond.classLink RX7 30 RX4 ∈ wsX7_init := by decide +kernel
theorem lkX7_init_18 : Cond.instantiable RX4 4 ∈ wsX7_init := by decide +kernel
theorem lkX7_init_19 : Cond.initialized RX4 ∈ wsX7_init := by decide +kernel
theorem lkX7_init_20 : Cond.instanceMethod yX4_init ∈ wsX7_init := by decide +kernel
theorem lkX7_init_21 : Cond.fieldLink RX7 33 "ServiceGame" "reader" "LServiceGame$Reader;" ∈ wsX7_init := by decide +kernel
theorem lkX7_init_22 : Cond.classLink RX7 37 RX1 ∈ wsX7_init := by decide +kernel
theorem lkX7_init_23 : Cond.instantiable RX1 6 ∈ wsX7_init := by decide +kernel
theorem lkX7_init_24 : Cond.initialized RX1 ∈ wsX7_init := by decide +kernel
theorem lkX7_init_25 : Cond.instanceMethod yX1_init ∈ wsX7_init := by decide +kernel
theorem lkX7_init_26 : Cond.fieldLink RX7 40 "ServiceGame" "machine" "LServiceGame$Machine;" ∈ wsX7_init := by decide +kernel
theorem lkX7_init_27 : Cond.classLink RX7 44 RX2 ∈ wsX7_init := by decide +kernel
theorem lkX7_init_28 : Cond.instantiable RX2 4 ∈ wsX7_init := by decide +kernel
theorem lkX7_init_29 : Cond.initialized RX2 ∈ wsX7_init := by decide +kernel
theorem lkX7_init_30 : Cond.instanceMethod yX2_init ∈ wsX7_init := by decide +kernel
theorem lkX7_init_31 : Cond.fieldLink RX7 47 "ServiceGame" "mail" "LServiceGame$Mail;" ∈ wsX7_init := by decide +kernel
theorem lkX7_init_32 : Cond.fieldLink RX7 51 "ServiceGame" "boardPoints" "[I" ∈ wsX7_init := by decide +kernel
def fX7_init (fu : Nat) (σ : hs_T) (o : Nat) : Option (Unit × hs_T) :=
 (hs_lv σ [o]).bind fun _ =>
 (hs_nA σ 11 7 7).bind fun σ1 =>
 (hs_st σ1 11 (hs_N σ) 0 60).bind fun σ6 =>
 (hs_st σ6 11 (hs_N σ) 1 0).bind fun σ8 =>
 (hs_st σ8 11 (hs_N σ) 2 3).bind fun σ10 =>
 (hs_st σ10 11 (hs_N σ) 3 100).bind fun σ12 =>
 (hs_st σ12 11 (hs_N σ) 4 1).bind fun σ14 =>
 (hs_st σ14 11 (hs_N σ) 5 1).bind fun σ16 =>
 (hs_st σ16 11 (hs_N σ) 6 1).bind fun σ18 =>
 (hs_pR σ18 9 o 0 (some (hs_N σ))).bind fun σ21 =>
 (hs_lv σ21 [o]).bind fun _ =>
 (hs_nO σ21 1).bind fun σ22 =>
 (hs_ck σ22 1 (hs_N σ21)).bind fun _ =>
 hs_b2 (fJx4a65c_init_da8c8 fu σ22 (hs_N σ21)) fun _ σ28 =>
 (hs_le (hs_N σ22) (hs_N σ28)).bind fun _ =>
 (hs_pR σ28 9 o 1 (some (hs_N σ21))).bind fun σ33 =>
 (hs_lv σ33 [o]).bind fun _ =>
 (hs_nO σ33 1).bind fun σ34 =>
 (hs_ck σ34 1 (hs_N σ33)).bind fun _ =>
 hs_b2 (fJx4a65c_init_da8c8 fu σ34 (hs_N σ33)) fun _ σ40 =>
 (hs_le (hs_N σ34) (hs_N σ40)).bind fun _ =>
 (hs_pR σ40 9 o 2 (some (hs_N σ33))).bind fun σ45 =>
 (hs_lv σ45 [o]).bind fun _ =>
 (hs_nO σ45 8).bind fun σ46 =>
 (hs_ck σ46 8 (hs_N σ45)).bind fun _ =>
 (hs_lv σ46 [(hs_N σ45), o]).bind fun _ =>
 hs_b2 (fX6_init fu σ46 (hs_N σ45)) fun _ σ52 =>
 (hs_le (hs_N σ46) (hs_N σ52)).bind fun _ =>
 (hs_pR σ52 9 o 3 (some (hs_N σ45))).bind fun σ60 =>
 (hs_lv σ60 [o]).bind fun _ =>
 (hs_nO σ60 6).bind fun σ61 =>
 (hs_ck σ61 6 (hs_N σ60)).bind fun _ =>
 (hs_lv σ61 [(hs_N σ60), o]).bind fun _ =>
 hs_b2 (fX4_init fu σ61 (hs_N σ60)) fun _ σ67 =>
 (hs_le (hs_N σ61) (hs_N σ67)).bind fun _ =>
 (hs_pR σ67 9 o 4 (some (hs_N σ60))).bind fun σ75 =>
 (hs_lv σ75 [o]).bind fun _ =>
 (hs_nO σ75 3).bind fun σ76 =>
 (hs_ck σ76 3 (hs_N σ75)).bind fun _ =>
 (hs_lv σ76 [(hs_N σ75), o]).bind fun _ =>
 hs_b2 (fX1_init fu σ76 (hs_N σ75)) fun _ σ82 =>
 (hs_le (hs_N σ76) (hs_N σ82)).bind fun _ =>
 (hs_pR σ82 9 o 5 (some (hs_N σ75))).bind fun σ90 =>
 (hs_lv σ90 [o]).bind fun _ =>
 (hs_nO σ90 4).bind fun σ91 =>
 (hs_ck σ91 4 (hs_N σ90)).bind fun _ =>
 (hs_lv σ91 [(hs_N σ90), o]).bind fun _ =>
 hs_b2 (fX2_init fu σ91 (hs_N σ90)) fun _ σ97 =>
 (hs_le (hs_N σ91) (hs_N σ97)).bind fun _ =>
 (hs_pR σ97 9 o 6 (some (hs_N σ90))).bind fun σ105 =>
 (hs_lv σ105 [o]).bind fun _ =>
 (hs_nA σ105 11 5 5).bind fun σ106 =>
 (hs_pR σ106 9 o 7 (some (hs_N σ105))).bind fun σ112 =>
 some ((), σ112)
section SX7_init
variable {p : Program} {l : Launch} {e : Env} {s : State} {m : MethodId} {args : Array Value} {below : List Frame} {meth : Method} {c : Code} {X : hs_X} {ad : Nat → Nat} {A : Nat → Prop} {r : Unit} {τ : hs_T} {N0 : Nat}
set_option maxRecDepth 100000 in
set_option maxHeartbeats 4000000 in
theorem wX7_init_e (fu : Nat) (C : hs_Cx p s m args meth c X A yX7_init cX7_init 1 none wsX7_init) (hem : ad hs_em = X.2.2.1.2.2.2) {H : Heap} {locs : List Loc} {ls : Array Slot} (σ : hs_T) (o : Nat) (hf : fX7_init fu σ o = some (r, τ)) (hB : hs_H X.1 X.2.1 ad A σ H) (hS : va_S A s.heap H locs) (hl : lv_has ls 1 [(0, .ref (ad o))]) (hN : N0 = hs_N σ) : W p l e rmX7_init s m args below meth c H locs 0 0 (MQ below (hs_Q1 hs_tvv X ad N0 A r τ) args s 16 1418 A) (F0 m 0 ls []) := by
  obtain ⟨hx, hb, hml, hr, hts, hown, hlk, hnm, hV, hA0, hA⟩ := id C
  have hown : s.vm.findClass RX7 = some m.cls := hown
  have hK := hV.1
  have hNw := hV.2.1
  unfold fX7_init at hf
  have hag : hs_Ag N0 ad ad := fun _ _ => rfl
  have hN0 : N0 ≤ hs_N σ := Nat.le_of_eq hN
  refine lv_aload_n hx hb dX7_init_0 rfl (lv_at hl 0 rfl) ?_
  refine W.objInit hx hb hown (hts _ lkX7_init_1) (hts _ lkX7_init_2) (hts _ lkX7_init_0) rfl (by rw [hml]; exact hl.1) rfl dX7_init_1 (Nat.le_of_ble_eq_true rfl) (Nat.le_of_ble_eq_true rfl) ?_
  refine W.eq (g2 := F0 m 4 ls []) rfl ?_
  refine lv_aload_n hx hb dX7_init_4 rfl (lv_at hl 0 rfl) ?_
  refine lv_bipush (v := 7) hx hb dX7_init_5 (by decide) ?_
  obtain ⟨_, h5, hf⟩ := hs_bi hf
  obtain ⟨σ1, h2, hf⟩ := hs_bi hf
  refine hs_newI (mx := 7) hx hb (hts _ lkX7_init_3) hK hB hS hA (by decide) h2 (Nat.le_of_ble_eq_true rfl) (Nat.le_of_ble_eq_true rfl) dX7_init_7 (fun ad3 H g4 hB hS => ?_)
  have hem : ad3 hs_em = X.2.2.1.2.2.2 := (g4 _ (Or.inr rfl)).trans hem
  have hag := hs_agt hag hN0 g4
  have hl : lv_has ls 1 [(0, .ref (ad3 o))] := by rw [g4 o (Or.inl (hs_lv_i h5 _ (List.mem_of_getElem? (i := 0) rfl)))]; exact hl
  refine W.eq (g2 := F0 m 9 ls [.ref (ad3 (hs_N σ)), .ref (ad3 o)]) (by rw [g4 o (Or.inl (hs_lv_i h5 _ (List.mem_of_getElem? (i := 0) rfl)))] <;> rfl) ?_
  have hN0 : N0 ≤ hs_N σ1 := by rw [hs_nA_N h2]; exact Nat.le_succ_of_le hN0
  refine lv_dup hx hb dX7_init_9 rfl ?_
  refine lv_iconst (v := 0) hx hb dX7_init_10 (by decide) ?_
  refine lv_bipush (v := 60) hx hb dX7_init_11 (by decide) ?_
  obtain ⟨σ6, h7, hf⟩ := hs_bi hf
  refine x_iast hx hb hK hB hS h7 dX7_init_13 (fun H locs hB hS => ?_)
  have hN0 : N0 ≤ hs_N σ6 := by rw [hs_st_N h7]; exact hN0
  refine lv_dup hx hb dX7_init_14 rfl ?_
  refine lv_iconst (v := 1) hx hb dX7_init_15 (by decide) ?_
  refine lv_iconst (v := 0) hx hb dX7_init_16 (by decide) ?_
  obtain ⟨σ8, h9, hf⟩ := hs_bi hf
  refine x_iast hx hb hK hB hS h9 dX7_init_17 (fun H locs hB hS => ?_)
  have hN0 : N0 ≤ hs_N σ8 := by rw [hs_st_N h9]; exact hN0
  refine lv_dup hx hb dX7_init_18 rfl ?_
  refine lv_iconst (v := 2) hx hb dX7_init_19 (by decide) ?_
  refine lv_iconst (v := 3) hx hb dX7_init_20 (by decide) ?_
  obtain ⟨σ10, h11, hf⟩ := hs_bi hf
  refine x_iast hx hb hK hB hS h11 dX7_init_21 (fun H locs hB hS => ?_)
  have hN0 : N0 ≤ hs_N σ10 := by rw [hs_st_N h11]; exact hN0
  refine lv_dup hx hb dX7_init_22 rfl ?_
  refine lv_iconst (v := 3) hx hb dX7_init_23 (by decide) ?_
  refine lv_bipush (v := 100) hx hb dX7_init_24 (by decide) ?_
  obtain ⟨σ12, h13, hf⟩ := hs_bi hf
  refine x_iast hx hb hK hB hS h13 dX7_init_26 (fun H locs hB hS => ?_)
  have hN0 : N0 ≤ hs_N σ12 := by rw [hs_st_N h13]; exact hN0
  refine lv_dup hx hb dX7_init_27 rfl ?_
  refine lv_iconst (v := 4) hx hb dX7_init_28 (by decide) ?_
  refine lv_iconst (v := 1) hx hb dX7_init_29 (by decide) ?_
  obtain ⟨σ14, h15, hf⟩ := hs_bi hf
  refine x_iast hx hb hK hB hS h15 dX7_init_30 (fun H locs hB hS => ?_)
  have hN0 : N0 ≤ hs_N σ14 := by rw [hs_st_N h15]; exact hN0
  refine lv_dup hx hb dX7_init_31 rfl ?_
  refine lv_iconst (v := 5) hx hb dX7_init_32 (by decide) ?_
  refine lv_iconst (v := 1) hx hb dX7_init_33 (by decide) ?_
  obtain ⟨σ16, h17, hf⟩ := hs_bi hf
  refine x_iast hx hb hK hB hS h17 dX7_init_34 (fun H locs hB hS => ?_)
  have hN0 : N0 ≤ hs_N σ16 := by rw [hs_st_N h17]; exact hN0
  refine lv_dup hx hb dX7_init_35 rfl ?_
  refine lv_bipush (v := 6) hx hb dX7_init_36 (by decide) ?_
  refine lv_iconst (v := 1) hx hb dX7_init_38 (by decide) ?_
  obtain ⟨σ18, h19, hf⟩ := hs_bi hf
  refine x_iast hx hb hK hB hS h19 dX7_init_39 (fun H locs hB hS => ?_)
  have hN0 : N0 ≤ hs_N σ18 := by rw [hs_st_N h19]; exact hN0
  obtain ⟨σ21, h20, hf⟩ := hs_bi hf
  refine x_putRsF hx hb hts inX7_init_X7 tyX7_ok nmX7 hown hK hB hS (by decide) rfl (k := 0) (by decide) rfl h20 (hts _ lkX7_init_4) (fun _ h9 => h9) rfl hnm rfl (ty := .array .int) (by decide +kernel) rfl rfl dX7_init_40 (fun H locs hB hS => ?_)
  have hN0 : N0 ≤ hs_N σ21 := by rw [hs_pR_N h20]; exact hN0
  refine lv_aload_n hx hb dX7_init_43 rfl (lv_at hl 0 rfl) ?_
  obtain ⟨_, h26, hf⟩ := hs_bi hf
  obtain ⟨σ22, h23, hf⟩ := hs_bi hf
  refine hs_new hx hb hts inX7_init_Jx4a65c tyJx4a65c_ok hown (hts _ lkX7_init_5) (hts _ lkX7_init_6) (hts _ lkX7_init_7) hK hB hS hA (by decide) rfl (hs_df1 _) h23 (Nat.le_of_ble_eq_true rfl) (Nat.le_of_ble_eq_true rfl) dX7_init_44 (fun ad24 H g25 hB hS => ?_)
  have hem : ad24 hs_em = X.2.2.1.2.2.2 := (g25 _ (Or.inr rfl)).trans hem
  have hag := hs_agt hag hN0 g25
  have hl : lv_has ls 1 [(0, .ref (ad24 o))] := by rw [g25 o (Or.inl (hs_lv_i h26 _ (List.mem_of_getElem? (i := 0) rfl)))]; exact hl
  refine W.eq (g2 := F0 m 47 ls [.ref (ad24 (hs_N σ21)), .ref (ad24 o)]) (by rw [g25 o (Or.inl (hs_lv_i h26 _ (List.mem_of_getElem? (i := 0) rfl)))] <;> rfl) ?_
  have hN0 : N0 ≤ hs_N σ22 := by rw [hs_nO_N h23]; exact Nat.le_succ_of_le hN0
  refine lv_dup hx hb dX7_init_47 rfl ?_
  obtain ⟨_, h29, hf⟩ := hs_bi hf
  obtain ⟨_, σ28, h27, hf⟩ := hs_b2i hf
  obtain ⟨_, h30, hf⟩ := hs_bi hf
  refine hs_call0 (va_runI (As := []) (rest := [.ref (ad24 (hs_N σ21)), .ref (ad24 o)]) ⟨hx, hb, hml, hown, hts⟩ (ctJx4a65c_init_da8c8 l fu σ22 (hs_N σ21) X ad24 H.size _ _ h27) (cwI 0 hts gX7_init_Jx4a65c_init_da8c8 rfl rfl rfl (hts _ lkX7_init_7) (hts _ lkX7_init_8) (hts _ lkX7_init_9) rfl (by decide +kernel) ⟨Nat.le_of_ble_eq_true rfl, Nat.le_of_ble_eq_true rfl⟩) (hs_pre hV hB hS hA0 hA hem) rfl rfl hl.1 rfl (lv_room (Nat.le_of_ble_eq_true rfl)) dX7_init_48 ⟨Nat.le_of_ble_eq_true rfl, Nat.le_of_ble_eq_true rfl⟩) hB hS hA rfl (fun H locs hB hS => ?_)
  have hN0 : N0 ≤ hs_N σ28 := Nat.le_trans hN0 (hs_le_i h30)
  obtain ⟨σ33, h32, hf⟩ := hs_bi hf
  refine x_putRsF hx hb hts inX7_init_X7 tyX7_ok nmX7 hown hK hB hS (by decide) rfl (k := 1) (by decide) rfl h32 (hts _ lkX7_init_10) (fun _ h9 => h9) rfl hnm rfl (ty := .object "java/util/ArrayList") (by decide +kernel) rfl rfl dX7_init_51 (fun H locs hB hS => ?_)
  have hN0 : N0 ≤ hs_N σ33 := by rw [hs_pR_N h32]; exact hN0
  refine lv_aload_n hx hb dX7_init_54 rfl (lv_at hl 0 rfl) ?_
  obtain ⟨_, h38, hf⟩ := hs_bi hf
  obtain ⟨σ34, h35, hf⟩ := hs_bi hf
  refine hs_new hx hb hts inX7_init_Jx4a65c tyJx4a65c_ok hown (hts _ lkX7_init_5) (hts _ lkX7_init_6) (hts _ lkX7_init_7) hK hB hS hA (by decide) rfl (hs_df1 _) h35 (Nat.le_of_ble_eq_true rfl) (Nat.le_of_ble_eq_true rfl) dX7_init_55 (fun ad36 H g37 hB hS => ?_)
  have hem : ad36 hs_em = X.2.2.1.2.2.2 := (g37 _ (Or.inr rfl)).trans hem
  have hag := hs_agt hag hN0 g37
  have hl : lv_has ls 1 [(0, .ref (ad36 o))] := by rw [g37 o (Or.inl (hs_lv_i h38 _ (List.mem_of_getElem? (i := 0) rfl)))]; exact hl
  refine W.eq (g2 := F0 m 58 ls [.ref (ad36 (hs_N σ33)), .ref (ad36 o)]) (by rw [g37 o (Or.inl (hs_lv_i h38 _ (List.mem_of_getElem? (i := 0) rfl)))] <;> rfl) ?_
  have hN0 : N0 ≤ hs_N σ34 := by rw [hs_nO_N h35]; exact Nat.le_succ_of_le hN0
  refine lv_dup hx hb dX7_init_58 rfl ?_
  obtain ⟨_, h41, hf⟩ := hs_bi hf
  obtain ⟨_, σ40, h39, hf⟩ := hs_b2i hf
  obtain ⟨_, h42, hf⟩ := hs_bi hf
  refine hs_call0 (va_runI (As := []) (rest := [.ref (ad36 (hs_N σ33)), .ref (ad36 o)]) ⟨hx, hb, hml, hown, hts⟩ (ctJx4a65c_init_da8c8 l fu σ34 (hs_N σ33) X ad36 H.size _ _ h39) (cwI 0 hts gX7_init_Jx4a65c_init_da8c8 rfl rfl rfl (hts _ lkX7_init_7) (hts _ lkX7_init_8) (hts _ lkX7_init_9) rfl (by decide +kernel) ⟨Nat.le_of_ble_eq_true rfl, Nat.le_of_ble_eq_true rfl⟩) (hs_pre hV hB hS hA0 hA hem) rfl rfl hl.1 rfl (lv_room (Nat.le_of_ble_eq_true rfl)) dX7_init_59 ⟨Nat.le_of_ble_eq_true rfl, Nat.le_of_ble_eq_true rfl⟩) hB hS hA rfl (fun H locs hB hS => ?_)
  have hN0 : N0 ≤ hs_N σ40 := Nat.le_trans hN0 (hs_le_i h42)
  obtain ⟨σ45, h44, hf⟩ := hs_bi hf
  refine x_putRsF hx hb hts inX7_init_X7 tyX7_ok nmX7 hown hK hB hS (by decide) rfl (k := 2) (by decide) rfl h44 (hts _ lkX7_init_11) (fun _ h9 => h9) rfl hnm rfl (ty := .object "java/util/ArrayList") (by decide +kernel) rfl rfl dX7_init_62 (fun H locs hB hS => ?_)
  have hN0 : N0 ≤ hs_N σ45 := by rw [hs_pR_N h44]; exact hN0
  refine lv_aload_n hx hb dX7_init_65 rfl (lv_at hl 0 rfl) ?_
  obtain ⟨_, h50, hf⟩ := hs_bi hf
  obtain ⟨σ46, h47, hf⟩ := hs_bi hf
  refine hs_new hx hb hts inX7_init_X6 tyX6_ok hown (hts _ lkX7_init_12) (hts _ lkX7_init_13) (hts _ lkX7_init_14) hK hB hS hA (by decide) rfl (hs_df8 _) h47 (Nat.le_of_ble_eq_true rfl) (Nat.le_of_ble_eq_true rfl) dX7_init_66 (fun ad48 H g49 hB hS => ?_)
  have hem : ad48 hs_em = X.2.2.1.2.2.2 := (g49 _ (Or.inr rfl)).trans hem
  have hag := hs_agt hag hN0 g49
  have hl : lv_has ls 1 [(0, .ref (ad48 o))] := by rw [g49 o (Or.inl (hs_lv_i h50 _ (List.mem_of_getElem? (i := 0) rfl)))]; exact hl
  refine W.eq (g2 := F0 m 69 ls [.ref (ad48 (hs_N σ45)), .ref (ad48 o)]) (by rw [g49 o (Or.inl (hs_lv_i h50 _ (List.mem_of_getElem? (i := 0) rfl)))] <;> rfl) ?_
  have hN0 : N0 ≤ hs_N σ46 := by rw [hs_nO_N h47]; exact Nat.le_succ_of_le hN0
  refine lv_dup hx hb dX7_init_69 rfl ?_
  obtain ⟨_, h53, hf⟩ := hs_bi hf
  obtain ⟨_, h56, hf⟩ := hs_bi hf
  obtain ⟨_, σ52, h51, hf⟩ := hs_b2i hf
  obtain ⟨_, h54, hf⟩ := hs_bi hf
  refine hs_call1 (va_runIN (As := []) (rest := [.ref (ad48 (hs_N σ45)), .ref (ad48 o)]) ⟨hx, hb, hml, hown, hts⟩ (ctX6_init l fu σ46 (hs_N σ45) X ad48 H.size _ _ h51) ⟨va_cnB 0 hts gX7_init_X6_init_n25 rfl rfl rfl (hNw (.methodLinkNest "ServiceGame" 25 yX6_init "ServiceGame") (by decide +kernel)) (hts _ lkX7_init_14) (by decide +kernel) ⟨Nat.le_of_ble_eq_true rfl, Nat.le_of_ble_eq_true rfl⟩, rfl, (hts _ lkX7_init_15)⟩ (hs_pre hV hB hS hA0 hA hem) rfl rfl hl.1 rfl (lv_room (Nat.le_of_ble_eq_true rfl)) dX7_init_70 ⟨Nat.le_of_ble_eq_true rfl, Nat.le_of_ble_eq_true rfl⟩) hB hS hA (fun ad57 H locs g58 hB hS => ?_)
  have hem : ad57 hs_em = X.2.2.1.2.2.2 := (g58 _ (Or.inr rfl)).trans hem
  have hag := hs_agt hag hN0 g58
  have hl : lv_has ls 1 [(0, .ref (ad57 o))] := by rw [g58 o (Or.inl (hs_lv_i h56 _ (List.mem_of_getElem? (i := 1) rfl)))]; exact hl
  refine W.eq (g2 := F0 m 73 ls [.ref (ad57 (hs_N σ45)), .ref (ad57 o)]) (by rw [g58 (hs_N σ45) (Or.inl (hs_lv_i h56 _ (List.mem_of_getElem? (i := 0) rfl))), g58 o (Or.inl (hs_lv_i h56 _ (List.mem_of_getElem? (i := 1) rfl)))] <;> rfl) ?_
  have hN0 : N0 ≤ hs_N σ52 := Nat.le_trans hN0 (hs_le_i h54)
  obtain ⟨σ60, h59, hf⟩ := hs_bi hf
  refine x_putRsF hx hb hts inX7_init_X7 tyX7_ok nmX7 hown hK hB hS (by decide) rfl (k := 3) (by decide) rfl h59 (hts _ lkX7_init_16) (fun _ h9 => h9) rfl hnm rfl (ty := .object "ServiceGame$Tape") (by decide +kernel) rfl rfl dX7_init_73 (fun H locs hB hS => ?_)
  have hN0 : N0 ≤ hs_N σ60 := by rw [hs_pR_N h59]; exact hN0
  refine lv_aload_n hx hb dX7_init_76 rfl (lv_at hl 0 rfl) ?_
  obtain ⟨_, h65, hf⟩ := hs_bi hf
  obtain ⟨σ61, h62, hf⟩ := hs_bi hf
  refine hs_new hx hb hts inX7_init_X4 tyX4_ok hown (hts _ lkX7_init_17) (hts _ lkX7_init_18) (hts _ lkX7_init_19) hK hB hS hA (by decide) rfl (hs_df6 _) h62 (Nat.le_of_ble_eq_true rfl) (Nat.le_of_ble_eq_true rfl) dX7_init_77 (fun ad63 H g64 hB hS => ?_)
  have hem : ad63 hs_em = X.2.2.1.2.2.2 := (g64 _ (Or.inr rfl)).trans hem
  have hag := hs_agt hag hN0 g64
  have hl : lv_has ls 1 [(0, .ref (ad63 o))] := by rw [g64 o (Or.inl (hs_lv_i h65 _ (List.mem_of_getElem? (i := 0) rfl)))]; exact hl
  refine W.eq (g2 := F0 m 80 ls [.ref (ad63 (hs_N σ60)), .ref (ad63 o)]) (by rw [g64 o (Or.inl (hs_lv_i h65 _ (List.mem_of_getElem? (i := 0) rfl)))] <;> rfl) ?_
  have hN0 : N0 ≤ hs_N σ61 := by rw [hs_nO_N h62]; exact Nat.le_succ_of_le hN0
  refine lv_dup hx hb dX7_init_80 rfl ?_
  obtain ⟨_, h68, hf⟩ := hs_bi hf
  obtain ⟨_, h71, hf⟩ := hs_bi hf
  obtain ⟨_, σ67, h66, hf⟩ := hs_b2i hf
  obtain ⟨_, h69, hf⟩ := hs_bi hf
  refine hs_call1 (va_runIN (As := []) (rest := [.ref (ad63 (hs_N σ60)), .ref (ad63 o)]) ⟨hx, hb, hml, hown, hts⟩ (ctX4_init l fu σ61 (hs_N σ60) X ad63 H.size _ _ h66) ⟨va_cnB 0 hts gX7_init_X4_init_n32 rfl rfl rfl (hNw (.methodLinkNest "ServiceGame" 32 yX4_init "ServiceGame") (by decide +kernel)) (hts _ lkX7_init_19) (by decide +kernel) ⟨Nat.le_of_ble_eq_true rfl, Nat.le_of_ble_eq_true rfl⟩, rfl, (hts _ lkX7_init_20)⟩ (hs_pre hV hB hS hA0 hA hem) rfl rfl hl.1 rfl (lv_room (Nat.le_of_ble_eq_true rfl)) dX7_init_81 ⟨Nat.le_of_ble_eq_true rfl, Nat.le_of_ble_eq_true rfl⟩) hB hS hA (fun ad72 H locs g73 hB hS => ?_)
  have hem : ad72 hs_em = X.2.2.1.2.2.2 := (g73 _ (Or.inr rfl)).trans hem
  have hag := hs_agt hag hN0 g73
  have hl : lv_has ls 1 [(0, .ref (ad72 o))] := by rw [g73 o (Or.inl (hs_lv_i h71 _ (List.mem_of_getElem? (i := 1) rfl)))]; exact hl
  refine W.eq (g2 := F0 m 84 ls [.ref (ad72 (hs_N σ60)), .ref (ad72 o)]) (by rw [g73 (hs_N σ60) (Or.inl (hs_lv_i h71 _ (List.mem_of_getElem? (i := 0) rfl))), g73 o (Or.inl (hs_lv_i h71 _ (List.mem_of_getElem? (i := 1) rfl)))] <;> rfl) ?_
  have hN0 : N0 ≤ hs_N σ67 := Nat.le_trans hN0 (hs_le_i h69)
  obtain ⟨σ75, h74, hf⟩ := hs_bi hf
  refine x_putRsF hx hb hts inX7_init_X7 tyX7_ok nmX7 hown hK hB hS (by decide) rfl (k := 4) (by decide) rfl h74 (hts _ lkX7_init_21) (fun _ h9 => h9) rfl hnm rfl (ty := .object "ServiceGame$Reader") (by decide +kernel) rfl rfl dX7_init_84 (fun H locs hB hS => ?_)
  have hN0 : N0 ≤ hs_N σ75 := by rw [hs_pR_N h74]; exact hN0
  refine lv_aload_n hx hb dX7_init_87 rfl (lv_at hl 0 rfl) ?_
  obtain ⟨_, h80, hf⟩ := hs_bi hf
  obtain ⟨σ76, h77, hf⟩ := hs_bi hf
  refine hs_new hx hb hts inX7_init_X1 tyX1_ok hown (hts _ lkX7_init_22) (hts _ lkX7_init_23) (hts _ lkX7_init_24) hK hB hS hA (by decide) rfl (hs_df3 _) h77 (Nat.le_of_ble_eq_true rfl) (Nat.le_of_ble_eq_true rfl) dX7_init_88 (fun ad78 H g79 hB hS => ?_)
  have hem : ad78 hs_em = X.2.2.1.2.2.2 := (g79 _ (Or.inr rfl)).trans hem
  have hag := hs_agt hag hN0 g79
  have hl : lv_has ls 1 [(0, .ref (ad78 o))] := by rw [g79 o (Or.inl (hs_lv_i h80 _ (List.mem_of_getElem? (i := 0) rfl)))]; exact hl
  refine W.eq (g2 := F0 m 91 ls [.ref (ad78 (hs_N σ75)), .ref (ad78 o)]) (by rw [g79 o (Or.inl (hs_lv_i h80 _ (List.mem_of_getElem? (i := 0) rfl)))] <;> rfl) ?_
  have hN0 : N0 ≤ hs_N σ76 := by rw [hs_nO_N h77]; exact Nat.le_succ_of_le hN0
  refine lv_dup hx hb dX7_init_91 rfl ?_
  obtain ⟨_, h83, hf⟩ := hs_bi hf
  obtain ⟨_, h86, hf⟩ := hs_bi hf
  obtain ⟨_, σ82, h81, hf⟩ := hs_b2i hf
  obtain ⟨_, h84, hf⟩ := hs_bi hf
  refine hs_call1 (va_runIN (As := []) (rest := [.ref (ad78 (hs_N σ75)), .ref (ad78 o)]) ⟨hx, hb, hml, hown, hts⟩ (ctX1_init l fu σ76 (hs_N σ75) X ad78 H.size _ _ h81) ⟨va_cnB 0 hts gX7_init_X1_init_n39 rfl rfl rfl (hNw (.methodLinkNest "ServiceGame" 39 yX1_init "ServiceGame") (by decide +kernel)) (hts _ lkX7_init_24) (by decide +kernel) ⟨Nat.le_of_ble_eq_true rfl, Nat.le_of_ble_eq_true rfl⟩, rfl, (hts _ lkX7_init_25)⟩ (hs_pre hV hB hS hA0 hA hem) rfl rfl hl.1 rfl (lv_room (Nat.le_of_ble_eq_true rfl)) dX7_init_92 ⟨Nat.le_of_ble_eq_true rfl, Nat.le_of_ble_eq_true rfl⟩) hB hS hA (fun ad87 H locs g88 hB hS => ?_)
  have hem : ad87 hs_em = X.2.2.1.2.2.2 := (g88 _ (Or.inr rfl)).trans hem
  have hag := hs_agt hag hN0 g88
  have hl : lv_has ls 1 [(0, .ref (ad87 o))] := by rw [g88 o (Or.inl (hs_lv_i h86 _ (List.mem_of_getElem? (i := 1) rfl)))]; exact hl
  refine W.eq (g2 := F0 m 95 ls [.ref (ad87 (hs_N σ75)), .ref (ad87 o)]) (by rw [g88 (hs_N σ75) (Or.inl (hs_lv_i h86 _ (List.mem_of_getElem? (i := 0) rfl))), g88 o (Or.inl (hs_lv_i h86 _ (List.mem_of_getElem? (i := 1) rfl)))] <;> rfl) ?_
  have hN0 : N0 ≤ hs_N σ82 := Nat.le_trans hN0 (hs_le_i h84)
  obtain ⟨σ90, h89, hf⟩ := hs_bi hf
  refine x_putRsF hx hb hts inX7_init_X7 tyX7_ok nmX7 hown hK hB hS (by decide) rfl (k := 5) (by decide) rfl h89 (hts _ lkX7_init_26) (fun _ h9 => h9) rfl hnm rfl (ty := .object "ServiceGame$Machine") (by decide +kernel) rfl rfl dX7_init_95 (fun H locs hB hS => ?_)
  have hN0 : N0 ≤ hs_N σ90 := by rw [hs_pR_N h89]; exact hN0
  refine lv_aload_n hx hb dX7_init_98 rfl (lv_at hl 0 rfl) ?_
  obtain ⟨_, h95, hf⟩ := hs_bi hf
  obtain ⟨σ91, h92, hf⟩ := hs_bi hf
  refine hs_new hx hb hts inX7_init_X2 tyX2_ok hown (hts _ lkX7_init_27) (hts _ lkX7_init_28) (hts _ lkX7_init_29) hK hB hS hA (by decide) rfl (hs_df4 _) h92 (Nat.le_of_ble_eq_true rfl) (Nat.le_of_ble_eq_true rfl) dX7_init_99 (fun ad93 H g94 hB hS => ?_)
  have hem : ad93 hs_em = X.2.2.1.2.2.2 := (g94 _ (Or.inr rfl)).trans hem
  have hag := hs_agt hag hN0 g94
  have hl : lv_has ls 1 [(0, .ref (ad93 o))] := by rw [g94 o (Or.inl (hs_lv_i h95 _ (List.mem_of_getElem? (i := 0) rfl)))]; exact hl
  refine W.eq (g2 := F0 m 102 ls [.ref (ad93 (hs_N σ90)), .ref (ad93 o)]) (by rw [g94 o (Or.inl (hs_lv_i h95 _ (List.mem_of_getElem? (i := 0) rfl)))] <;> rfl) ?_
  have hN0 : N0 ≤ hs_N σ91 := by rw [hs_nO_N h92]; exact Nat.le_succ_of_le hN0
  refine lv_dup hx hb dX7_init_102 rfl ?_
  obtain ⟨_, h98, hf⟩ := hs_bi hf
  obtain ⟨_, h101, hf⟩ := hs_bi hf
  obtain ⟨_, σ97, h96, hf⟩ := hs_b2i hf
  obtain ⟨_, h99, hf⟩ := hs_bi hf
  refine hs_call1 (va_runIN (As := []) (rest := [.ref (ad93 (hs_N σ90)), .ref (ad93 o)]) ⟨hx, hb, hml, hown, hts⟩ (ctX2_init l fu σ91 (hs_N σ90) X ad93 H.size _ _ h96) ⟨va_cnB 0 hts gX7_init_X2_init_n46 rfl rfl rfl (hNw (.methodLinkNest "ServiceGame" 46 yX2_init "ServiceGame") (by decide +kernel)) (hts _ lkX7_init_29) (by decide +kernel) ⟨Nat.le_of_ble_eq_true rfl, Nat.le_of_ble_eq_true rfl⟩, rfl, (hts _ lkX7_init_30)⟩ (hs_pre hV hB hS hA0 hA hem) rfl rfl hl.1 rfl (lv_room (Nat.le_of_ble_eq_true rfl)) dX7_init_103 ⟨Nat.le_of_ble_eq_true rfl, Nat.le_of_ble_eq_true rfl⟩) hB hS hA (fun ad102 H locs g103 hB hS => ?_)
  have hem : ad102 hs_em = X.2.2.1.2.2.2 := (g103 _ (Or.inr rfl)).trans hem
  have hag := hs_agt hag hN0 g103
  have hl : lv_has ls 1 [(0, .ref (ad102 o))] := by rw [g103 o (Or.inl (hs_lv_i h101 _ (List.mem_of_getElem? (i := 1) rfl)))]; exact hl
  refine W.eq (g2 := F0 m 106 ls [.ref (ad102 (hs_N σ90)), .ref (ad102 o)]) (by rw [g103 (hs_N σ90) (Or.inl (hs_lv_i h101 _ (List.mem_of_getElem? (i := 0) rfl))), g103 o (Or.inl (hs_lv_i h101 _ (List.mem_of_getElem? (i := 1) rfl)))] <;> rfl) ?_
  have hN0 : N0 ≤ hs_N σ97 := Nat.le_trans hN0 (hs_le_i h99)
  obtain ⟨σ105, h104, hf⟩ := hs_bi hf
  refine x_putRsF hx hb hts inX7_init_X7 tyX7_ok nmX7 hown hK hB hS (by decide) rfl (k := 6) (by decide) rfl h104 (hts _ lkX7_init_31) (fun _ h9 => h9) rfl hnm rfl (ty := .object "ServiceGame$Mail") (by decide +kernel) rfl rfl dX7_init_106 (fun H locs hB hS => ?_)
  have hN0 : N0 ≤ hs_N σ105 := by rw [hs_pR_N h104]; exact hN0
  refine lv_aload_n hx hb dX7_init_109 rfl (lv_at hl 0 rfl) ?_
  refine lv_iconst (v := 5) hx hb dX7_init_110 (by decide) ?_
  have hl := lv_sub hl [] (l' := []) rfl
  obtain ⟨_, h110, hf⟩ := hs_bi hf
  obtain ⟨σ106, h107, hf⟩ := hs_bi hf
  refine hs_newI (mx := 5) hx hb (hts _ lkX7_init_3) hK hB hS hA (by decide) h107 (Nat.le_of_ble_eq_true rfl) (Nat.le_of_ble_eq_true rfl) dX7_init_111 (fun ad108 H g109 hB hS => ?_)
  have hem : ad108 hs_em = X.2.2.1.2.2.2 := (g109 _ (Or.inr rfl)).trans hem
  have hag := hs_agt hag hN0 g109
  refine W.eq (g2 := F0 m 113 ls [.ref (ad108 (hs_N σ105)), .ref (ad108 o)]) (by rw [g109 o (Or.inl (hs_lv_i h110 _ (List.mem_of_getElem? (i := 0) rfl)))] <;> rfl) ?_
  have hN0 : N0 ≤ hs_N σ106 := by rw [hs_nA_N h107]; exact Nat.le_succ_of_le hN0
  obtain ⟨σ112, h111, hf⟩ := hs_bi hf
  refine x_putRsF hx hb hts inX7_init_X7 tyX7_ok nmX7 hown hK hB hS (by decide) rfl (k := 7) (by decide) rfl h111 (hts _ lkX7_init_32) (fun _ h9 => h9) rfl hnm rfl (ty := .array .int) (by decide +kernel) rfl rfl dX7_init_113 (fun H locs hB hS => ?_)
  have hN0 : N0 ≤ hs_N σ112 := by rw [hs_pR_N h111]; exact hN0
  obtain ⟨rfl, rfl⟩ := hs_ri hf
  refine W.widen (k := 16) (n := 1418) (Nat.le_of_ble_eq_true rfl) (Nat.le_of_ble_eq_true rfl) ?_
  exact hs_vret1 hx hb hr hlk hag hB hS dX7_init_116
end SX7_init
set_option maxRecDepth 100000 in
theorem ctX7_init (l : Launch) (fu : Nat) (σ : hs_T) (o : Nat) : hs_C1 hs_tvv l yX7_init wsX7_init rmX7_init 16 1418 (fun ad => [.ref (ad o)]) σ (fX7_init fu σ o) := by
  intro X ad sz r τ hf
  refine hs_enter (cc := cX7_init) (maxL := 1) (ret := none) (by decide) rfl (Nat.le_of_ble_eq_true rfl) ?_
  intro p e s m below meth c ls C hl hem hB hS hsz
  exact wX7_init_e fu C hem σ o hf hB hS hl rfl
/-! ServiceGame.team()I -/
abbrev rmX7_team : Room := { frames := 7, cells := 27, slots := 3705, locals := 149 }
theorem inX7_team_X5 : ∀ w ∈ wsX50, w ∈ wsX7_team := fun _ h => List.mem_cons_of_mem _ (List.mem_append_left _ (List.mem_append_right _ h))
theorem inX7_team_X7 : ∀ w ∈ wsX70, w ∈ wsX7_team := fun _ h => List.mem_cons_of_mem _ (List.mem_append_left _ (List.mem_append_left _ (List.mem_append_right _ h)))
theorem lkX7_team_0 : Cond.fieldLink RX7 54 "ServiceGame" "rounds" "I" ∈ wsX7_team := by decide +kernel
theorem lkX7_team_1 : Cond.fieldLink RX7 16 "ServiceGame" "services" "Ljava/util/ArrayList;" ∈ wsX7_team := by decide +kernel
theorem lkX7_team_2 : Cond.classLink RX7 62 RX5 ∈ wsX7_team := by decide +kernel
theorem lkX7_team_3 : Cond.instantiable RX5 14 ∈ wsX7_team := by decide +kernel
theorem lkX7_team_4 : Cond.initialized RX5 ∈ wsX7_team := by decide +kernel
theorem lkX7_team_5 : Cond.instanceMethod yX5_init ∈ wsX7_team := by decide +kernel
def fX7_team (fu : Nat) (σ : hs_T) (o : Nat) : Option (Int32 × hs_T) :=
 (hs_gI σ 9 o 8).bind fun v2 =>
 if v2 ≤ 0 then
 ((hs_ck σ 9 o).bind fun _ =>
 hs_b2 (fX7_teams fu σ o) fun v8 σ5 =>
 (hs_le (hs_N σ) (hs_N σ5)).bind fun _ =>
 if v8 < 5 then
 ((hs_gN σ5 9 o 1).bind fun n13 =>
 (hs_lv σ5 [n13, o]).bind fun _ =>
 (hs_nO σ5 7).bind fun σ14 =>
 (hs_ck σ14 7 (hs_N σ5)).bind fun _ =>
 (hs_lv σ14 [(hs_N σ5), n13, o]).bind fun _ =>
 hs_b2 (fX5_init fu σ14 (hs_N σ5) v8 0) fun _ σ20 =>
 (hs_le (hs_N σ14) (hs_N σ20)).bind fun _ =>
 (hs_ck σ20 1 n13).bind fun _ =>
 (hs_lv σ20 [o]).bind fun _ =>
 hs_b2 (fJx4a65c_add_9ea2d fu σ20 n13 (hs_N σ5)) fun v31 σ28 =>
 (hs_le (hs_N σ20) (hs_N σ28)).bind fun _ =>
 (hs_gN σ28 9 o 1).bind fun n38 =>
 (hs_lv σ28 [n38, o]).bind fun _ =>
 (hs_nO σ28 7).bind fun σ39 =>
 (hs_ck σ39 7 (hs_N σ28)).bind fun _ =>
 (hs_lv σ39 [(hs_N σ28), n38, o]).bind fun _ =>
 hs_b2 (fX5_init fu σ39 (hs_N σ28) v8 1) fun _ σ45 =>
 (hs_le (hs_N σ39) (hs_N σ45)).bind fun _ =>
 (hs_ck σ45 1 n38).bind fun _ =>
 (hs_lv σ45 [o]).bind fun _ =>
 hs_b2 (fJx4a65c_add_9ea2d fu σ45 n38 (hs_N σ28)) fun v56 σ53 =>
 (hs_le (hs_N σ45) (hs_N σ53)).bind fun _ =>
 (hs_gN σ53 9 o 1).bind fun n63 =>
 (hs_lv σ53 [n63, o]).bind fun _ =>
 (hs_nO σ53 7).bind fun σ64 =>
 (hs_ck σ64 7 (hs_N σ53)).bind fun _ =>
 (hs_lv σ64 [(hs_N σ53), n63, o]).bind fun _ =>
 hs_b2 (fX5_init fu σ64 (hs_N σ53) v8 2) fun _ σ70 =>
 (hs_le (hs_N σ64) (hs_N σ70)).bind fun _ =>
 (hs_ck σ70 1 n63).bind fun _ =>
 (hs_lv σ70 [o]).bind fun _ =>
 hs_b2 (fJx4a65c_add_9ea2d fu σ70 n63 (hs_N σ53)) fun v81 σ78 =>
 (hs_le (hs_N σ70) (hs_N σ78)).bind fun _ =>
 some (v8, σ78))
 else
 (some ((-4), σ5)))
 else
 (some ((-3), σ))
section SX7_team
variable {p : Program} {l : Launch} {e : Env} {s : State} {m : MethodId} {args : Array Value} {below : List Frame} {meth : Method} {c : Code} {X : hs_X} {ad : Nat → Nat} {A : Nat → Prop} {r : Int32} {τ : hs_T} {N0 : Nat}
set_option maxRecDepth 100000 in
set_option maxHeartbeats 4000000 in
theorem wX7_team_e (fu : Nat) (C : hs_Cx p s m args meth c X A yX7_team cX7_team 3 (some .int) wsX7_team) (hem : ad hs_em = X.2.2.1.2.2.2) {H : Heap} {locs : List Loc} {ls : Array Slot} (σ : hs_T) (o : Nat) (hf : fX7_team fu σ o = some (r, τ)) (hB : hs_H X.1 X.2.1 ad A σ H) (hS : va_S A s.heap H locs) (hl : lv_has ls 3 [(0, .ref (ad o))]) (hN : N0 = hs_N σ) : W p l e rmX7_team s m args below meth c H locs 0 0 (MQ below (hs_Q1 hs_tvi X ad N0 A r τ) args s 27 3705 A) (F0 m 0 ls []) := by
  obtain ⟨hx, hb, hml, hr, hts, hown, hlk, hnm, hV, hA0, hA⟩ := id C
  have hown : s.vm.findClass RX7 = some m.cls := hown
  have hK := hV.1
  have hNw := hV.2.1
  unfold fX7_team at hf
  have hag : hs_Ag N0 ad ad := fun _ _ => rfl
  have hN0 : N0 ≤ hs_N σ := Nat.le_of_eq hN
  refine lv_aload_n hx hb dX7_team_0 rfl (lv_at hl 0 rfl) ?_
  obtain ⟨v2, h1, hf⟩ := hs_bi hf
  refine x_getI hx hb hts inX7_team_X7 hown hK hB (by decide) rfl (k := 8) (by decide) rfl h1 (hts _ lkX7_team_0) (fun _ h9 => h9) dX7_team_1 ?_
  refine lv_if_le (tgt := 10) hx hb dX7_team_4 (by decide) (fun h3 => ?_) (fun h3 => ?_)
  · have hf := hs_tt h3 hf
    refine lv_aload_n hx hb dX7_team_10 rfl (lv_at hl 0 rfl) ?_
    obtain ⟨_, h6, hf⟩ := hs_bi hf
    obtain ⟨v8, σ5, h4, hf⟩ := hs_b2i hf
    obtain ⟨_, h7, hf⟩ := hs_bi hf
    refine hs_call0 (va_runV (As := []) (rest := []) ⟨hx, hb, hml, hown, hts⟩ (ctX7_teams l fu σ o X ad H.size _ _ h4) (cwV 0 hts gX7_team_X7_teams rfl rfl rfl (by decide +kernel) ⟨Nat.le_of_ble_eq_true rfl, Nat.le_of_ble_eq_true rfl⟩) (hs_preV (hs_recv hK hB (hs_ck_i h6) (by decide) rfl) hV hB hS hA0 hA hem) rfl rfl hl.1 rfl (lv_room (Nat.le_of_ble_eq_true rfl)) dX7_team_11 ⟨Nat.le_of_ble_eq_true rfl, Nat.le_of_ble_eq_true rfl⟩) hB hS hA rfl (fun H locs hB hS => ?_)
    have hN0 : N0 ≤ hs_N σ5 := Nat.le_trans hN0 (hs_le_i h7)
    refine lv_istore_n (lv' := [(1, .int v8), (0, .ref (ad o))]) hx hb dX7_team_14 rfl hl (by decide) rfl (fun ls hl => ?_)
    refine lv_iload_n hx hb dX7_team_15 rfl (lv_at hl 0 rfl) ?_
    refine lv_iconst (v := 5) hx hb dX7_team_16 (by decide) ?_
    refine lv_icmp_lt (tgt := 23) hx hb dX7_team_17 (by decide) (fun h10 => ?_) (fun h10 => ?_)
    · have hf := hs_tt h10 hf
      refine lv_iconst (v := 0) hx hb dX7_team_23 (by decide) ?_
      refine lv_istore_n (lv' := [(2, .int 0), (1, .int v8), (0, .ref (ad o))]) hx hb dX7_team_24 rfl hl (by decide) rfl (fun ls hl => ?_)
      refine lv_iload_n hx hb dX7_team_25 rfl (lv_at hl 0 rfl) ?_
      refine lv_iconst (v := 3) hx hb dX7_team_26 (by decide) ?_
      refine lv_icmp_ge (tgt := 53) hx hb dX7_team_27 (by decide) (fun h11 => absurd h11 (by decide)) (fun _ => ?_)
      refine lv_aload_n hx hb dX7_team_30 rfl (lv_at hl 2 rfl) ?_
      obtain ⟨n13, h12, hf⟩ := hs_bi hf
      refine x_getN hx hb hts inX7_team_X7 hown hK hB (by decide) rfl (k := 1) (by decide) rfl h12 (hts _ lkX7_team_1) (fun _ h9 => h9) dX7_team_31 ?_
      obtain ⟨_, h18, hf⟩ := hs_bi hf
      obtain ⟨σ14, h15, hf⟩ := hs_bi hf
      refine hs_new hx hb hts inX7_team_X5 tyX5_ok hown (hts _ lkX7_team_2) (hts _ lkX7_team_3) (hts _ lkX7_team_4) hK hB hS hA (by decide) rfl (hs_df7 _) h15 (Nat.le_of_ble_eq_true rfl) (Nat.le_of_ble_eq_true rfl) dX7_team_34 (fun ad16 H g17 hB hS => ?_)
      have hem : ad16 hs_em = X.2.2.1.2.2.2 := (g17 _ (Or.inr rfl)).trans hem
      have hag := hs_agt hag hN0 g17
      have hl : lv_has ls 3 [(2, .int 0), (1, .int v8), (0, .ref (ad16 o))] := by rw [g17 o (Or.inl (hs_lv_i h18 _ (List.mem_of_getElem? (i := 1) rfl)))]; exact hl
      refine W.eq (g2 := F0 m 37 ls [.ref (ad16 (hs_N σ5)), .ref (ad16 n13)]) (by rw [g17 n13 (Or.inl (hs_lv_i h18 _ (List.mem_of_getElem? (i := 0) rfl)))] <;> rfl) ?_
      have hN0 : N0 ≤ hs_N σ14 := by rw [hs_nO_N h15]; exact Nat.le_succ_of_le hN0
      refine lv_dup hx hb dX7_team_37 rfl ?_
      refine lv_iload_n hx hb dX7_team_38 rfl (lv_at hl 1 rfl) ?_
      refine lv_iload_n hx hb dX7_team_39 rfl (lv_at hl 0 rfl) ?_
      obtain ⟨_, h21, hf⟩ := hs_bi hf
      obtain ⟨_, h24, hf⟩ := hs_bi hf
      obtain ⟨_, σ20, h19, hf⟩ := hs_b2i hf
      obtain ⟨_, h22, hf⟩ := hs_bi hf
      refine hs_call1 (va_runIN (As := [.int v8, .int 0]) (rest := [.ref (ad16 (hs_N σ5)), .ref (ad16 n13)]) ⟨hx, hb, hml, hown, hts⟩ (ctX5_init l fu σ14 (hs_N σ5) v8 0 X ad16 H.size _ _ h19) ⟨va_cnB 2 hts gX7_team_X5_init_n64 rfl rfl rfl (hNw (.methodLinkNest "ServiceGame" 64 yX5_init "ServiceGame") (by decide +kernel)) (hts _ lkX7_team_4) (by decide +kernel) ⟨Nat.le_of_ble_eq_true rfl, Nat.le_of_ble_eq_true rfl⟩, rfl, (hts _ lkX7_team_5)⟩ (hs_pre hV hB hS hA0 hA hem) rfl rfl hl.1 rfl (lv_room (Nat.le_of_ble_eq_true rfl)) dX7_team_40 ⟨Nat.le_of_ble_eq_true rfl, Nat.le_of_ble_eq_true rfl⟩) hB hS hA (fun ad25 H locs g26 hB hS => ?_)
      have hem : ad25 hs_em = X.2.2.1.2.2.2 := (g26 _ (Or.inr rfl)).trans hem
      have hag := hs_agt hag hN0 g26
      have hl : lv_has ls 3 [(2, .int 0), (1, .int v8), (0, .ref (ad25 o))] := by rw [g26 o (Or.inl (hs_lv_i h24 _ (List.mem_of_getElem? (i := 2) rfl)))]; exact hl
      refine W.eq (g2 := F0 m 43 ls [.ref (ad25 (hs_N σ5)), .ref (ad25 n13)]) (by rw [g26 (hs_N σ5) (Or.inl (hs_lv_i h24 _ (List.mem_of_getElem? (i := 0) rfl))), g26 n13 (Or.inl (hs_lv_i h24 _ (List.mem_of_getElem? (i := 1) rfl)))] <;> rfl) ?_
      have hN0 : N0 ≤ hs_N σ20 := Nat.le_trans hN0 (hs_le_i h22)
      obtain ⟨_, h29, hf⟩ := hs_bi hf
      obtain ⟨_, h33, hf⟩ := hs_bi hf
      obtain ⟨v31, σ28, h27, hf⟩ := hs_b2i hf
      obtain ⟨_, h30, hf⟩ := hs_bi hf
      refine hs_call1 (va_runV (As := [.ref (ad25 (hs_N σ5))]) (rest := []) ⟨hx, hb, hml, hown, hts⟩ (ctJx4a65c_add_9ea2d l fu σ20 n13 (hs_N σ5) X ad25 H.size _ _ h27) (cwV 1 hts gX7_team_Jx4a65c_add_9ea2d rfl rfl rfl (by decide +kernel) ⟨Nat.le_of_ble_eq_true rfl, Nat.le_of_ble_eq_true rfl⟩) (hs_preV (hs_recv hK hB (hs_ck_i h29) (by decide) rfl) hV hB hS hA0 hA hem) rfl rfl hl.1 rfl (lv_room (Nat.le_of_ble_eq_true rfl)) dX7_team_43 ⟨Nat.le_of_ble_eq_true rfl, Nat.le_of_ble_eq_true rfl⟩) hB hS hA (fun ad34 H locs g35 hB hS => ?_)
      have hem : ad34 hs_em = X.2.2.1.2.2.2 := (g35 _ (Or.inr rfl)).trans hem
      have hag := hs_agt hag hN0 g35
      have hl : lv_has ls 3 [(2, .int 0), (1, .int v8), (0, .ref (ad34 o))] := by rw [g35 o (Or.inl (hs_lv_i h33 _ (List.mem_of_getElem? (i := 0) rfl)))]; exact hl
      refine W.eq (g2 := F0 m 46 ls [.int v31]) rfl ?_
      have hN0 : N0 ≤ hs_N σ28 := Nat.le_trans hN0 (hs_le_i h30)
      refine lv_pop hx hb dX7_team_46 rfl ?_
      refine lv_iinc (v := 1) (lv' := [(2, .int 1), (1, .int v8), (0, .ref (ad34 o))]) hx hb dX7_team_47 hl (k := 0) rfl (by decide) (by decide) rfl (fun ls hl => ?_)
      refine lv_goto (tgt := 25) hx hb dX7_team_50 (by decide) ?_
      refine lv_iload_n hx hb dX7_team_25 rfl (lv_at hl 0 rfl) ?_
      refine lv_iconst (v := 3) hx hb dX7_team_26 (by decide) ?_
      refine lv_icmp_ge (tgt := 53) hx hb dX7_team_27 (by decide) (fun h36 => absurd h36 (by decide)) (fun _ => ?_)
      refine lv_aload_n hx hb dX7_team_30 rfl (lv_at hl 2 rfl) ?_
      obtain ⟨n38, h37, hf⟩ := hs_bi hf
      refine x_getN hx hb hts inX7_team_X7 hown hK hB (by decide) rfl (k := 1) (by decide) rfl h37 (hts _ lkX7_team_1) (fun _ h9 => h9) dX7_team_31 ?_
      obtain ⟨_, h43, hf⟩ := hs_bi hf
      obtain ⟨σ39, h40, hf⟩ := hs_bi hf
      refine hs_new hx hb hts inX7_team_X5 tyX5_ok hown (hts _ lkX7_team_2) (hts _ lkX7_team_3) (hts _ lkX7_team_4) hK hB hS hA (by decide) rfl (hs_df7 _) h40 (Nat.le_of_ble_eq_true rfl) (Nat.le_of_ble_eq_true rfl) dX7_team_34 (fun ad41 H g42 hB hS => ?_)
      have hem : ad41 hs_em = X.2.2.1.2.2.2 := (g42 _ (Or.inr rfl)).trans hem
      have hag := hs_agt hag hN0 g42
      have hl : lv_has ls 3 [(2, .int 1), (1, .int v8), (0, .ref (ad41 o))] := by rw [g42 o (Or.inl (hs_lv_i h43 _ (List.mem_of_getElem? (i := 1) rfl)))]; exact hl
      refine W.eq (g2 := F0 m 37 ls [.ref (ad41 (hs_N σ28)), .ref (ad41 n38)]) (by rw [g42 n38 (Or.inl (hs_lv_i h43 _ (List.mem_of_getElem? (i := 0) rfl)))] <;> rfl) ?_
      have hN0 : N0 ≤ hs_N σ39 := by rw [hs_nO_N h40]; exact Nat.le_succ_of_le hN0
      refine lv_dup hx hb dX7_team_37 rfl ?_
      refine lv_iload_n hx hb dX7_team_38 rfl (lv_at hl 1 rfl) ?_
      refine lv_iload_n hx hb dX7_team_39 rfl (lv_at hl 0 rfl) ?_
      obtain ⟨_, h46, hf⟩ := hs_bi hf
      obtain ⟨_, h49, hf⟩ := hs_bi hf
      obtain ⟨_, σ45, h44, hf⟩ := hs_b2i hf
      obtain ⟨_, h47, hf⟩ := hs_bi hf
      refine hs_call1 (va_runIN (As := [.int v8, .int 1]) (rest := [.ref (ad41 (hs_N σ28)), .ref (ad41 n38)]) ⟨hx, hb, hml, hown, hts⟩ (ctX5_init l fu σ39 (hs_N σ28) v8 1 X ad41 H.size _ _ h44) ⟨va_cnB 2 hts gX7_team_X5_init_n64 rfl rfl rfl (hNw (.methodLinkNest "ServiceGame" 64 yX5_init "ServiceGame") (by decide +kernel)) (hts _ lkX7_team_4) (by decide +kernel) ⟨Nat.le_of_ble_eq_true rfl, Nat.le_of_ble_eq_true rfl⟩, rfl, (hts _ lkX7_team_5)⟩ (hs_pre hV hB hS hA0 hA hem) rfl rfl hl.1 rfl (lv_room (Nat.le_of_ble_eq_true rfl)) dX7_team_40 ⟨Nat.le_of_ble_eq_true rfl, Nat.le_of_ble_eq_true rfl⟩) hB hS hA (fun ad50 H locs g51 hB hS => ?_)
      have hem : ad50 hs_em = X.2.2.1.2.2.2 := (g51 _ (Or.inr rfl)).trans hem
      have hag := hs_agt hag hN0 g51
      have hl : lv_has ls 3 [(2, .int 1), (1, .int v8), (0, .ref (ad50 o))] := by rw [g51 o (Or.inl (hs_lv_i h49 _ (List.mem_of_getElem? (i := 2) rfl)))]; exact hl
      refine W.eq (g2 := F0 m 43 ls [.ref (ad50 (hs_N σ28)), .ref (ad50 n38)]) (by rw [g51 (hs_N σ28) (Or.inl (hs_lv_i h49 _ (List.mem_of_getElem? (i := 0) rfl))), g51 n38 (Or.inl (hs_lv_i h49 _ (List.mem_of_getElem? (i := 1) rfl)))] <;> rfl) ?_
      have hN0 : N0 ≤ hs_N σ45 := Nat.le_trans hN0 (hs_le_i h47)
      obtain ⟨_, h54, hf⟩ := hs_bi hf
      obtain ⟨_, h58, hf⟩ := hs_bi hf
      obtain ⟨v56, σ53, h52, hf⟩ := hs_b2i hf
      obtain ⟨_, h55, hf⟩ := hs_bi hf
      refine hs_call1 (va_runV (As := [.ref (ad50 (hs_N σ28))]) (rest := []) ⟨hx, hb, hml, hown, hts⟩ (ctJx4a65c_add_9ea2d l fu σ45 n38 (hs_N σ28) X ad50 H.size _ _ h52) (cwV 1 hts gX7_team_Jx4a65c_add_9ea2d rfl rfl rfl (by decide +kernel) ⟨Nat.le_of_ble_eq_true rfl, Nat.le_of_ble_eq_true rfl⟩) (hs_preV (hs_recv hK hB (hs_ck_i h54) (by decide) rfl) hV hB hS hA0 hA hem) rfl rfl hl.1 rfl (lv_room (Nat.le_of_ble_eq_true rfl)) dX7_team_43 ⟨Nat.le_of_ble_eq_true rfl, Nat.le_of_ble_eq_true rfl⟩) hB hS hA (fun ad59 H locs g60 hB hS => ?_)
      have hem : ad59 hs_em = X.2.2.1.2.2.2 := (g60 _ (Or.inr rfl)).trans hem
      have hag := hs_agt hag hN0 g60
      have hl : lv_has ls 3 [(2, .int 1), (1, .int v8), (0, .ref (ad59 o))] := by rw [g60 o (Or.inl (hs_lv_i h58 _ (List.mem_of_getElem? (i := 0) rfl)))]; exact hl
      refine W.eq (g2 := F0 m 46 ls [.int v56]) rfl ?_
      have hN0 : N0 ≤ hs_N σ53 := Nat.le_trans hN0 (hs_le_i h55)
      refine lv_pop hx hb dX7_team_46 rfl ?_
      refine lv_iinc (v := 2) (lv' := [(2, .int 2), (1, .int v8), (0, .ref (ad59 o))]) hx hb dX7_team_47 hl (k := 0) rfl (by decide) (by decide) rfl (fun ls hl => ?_)
      refine lv_goto (tgt := 25) hx hb dX7_team_50 (by decide) ?_
      refine lv_iload_n hx hb dX7_team_25 rfl (lv_at hl 0 rfl) ?_
      refine lv_iconst (v := 3) hx hb dX7_team_26 (by decide) ?_
      refine lv_icmp_ge (tgt := 53) hx hb dX7_team_27 (by decide) (fun h61 => absurd h61 (by decide)) (fun _ => ?_)
      refine lv_aload_n hx hb dX7_team_30 rfl (lv_at hl 2 rfl) ?_
      obtain ⟨n63, h62, hf⟩ := hs_bi hf
      refine x_getN hx hb hts inX7_team_X7 hown hK hB (by decide) rfl (k := 1) (by decide) rfl h62 (hts _ lkX7_team_1) (fun _ h9 => h9) dX7_team_31 ?_
      obtain ⟨_, h68, hf⟩ := hs_bi hf
      obtain ⟨σ64, h65, hf⟩ := hs_bi hf
      refine hs_new hx hb hts inX7_team_X5 tyX5_ok hown (hts _ lkX7_team_2) (hts _ lkX7_team_3) (hts _ lkX7_team_4) hK hB hS hA (by decide) rfl (hs_df7 _) h65 (Nat.le_of_ble_eq_true rfl) (Nat.le_of_ble_eq_true rfl) dX7_team_34 (fun ad66 H g67 hB hS => ?_)
      have hem : ad66 hs_em = X.2.2.1.2.2.2 := (g67 _ (Or.inr rfl)).trans hem
      have hag := hs_agt hag hN0 g67
      have hl : lv_has ls 3 [(2, .int 2), (1, .int v8), (0, .ref (ad66 o))] := by rw [g67 o (Or.inl (hs_lv_i h68 _ (List.mem_of_getElem? (i := 1) rfl)))]; exact hl
      refine W.eq (g2 := F0 m 37 ls [.ref (ad66 (hs_N σ53)), .ref (ad66 n63)]) (by rw [g67 n63 (Or.inl (hs_lv_i h68 _ (List.mem_of_getElem? (i := 0) rfl)))] <;> rfl) ?_
      have hN0 : N0 ≤ hs_N σ64 := by rw [hs_nO_N h65]; exact Nat.le_succ_of_le hN0
      refine lv_dup hx hb dX7_team_37 rfl ?_
      refine lv_iload_n hx hb dX7_team_38 rfl (lv_at hl 1 rfl) ?_
      refine lv_iload_n hx hb dX7_team_39 rfl (lv_at hl 0 rfl) ?_
      obtain ⟨_, h71, hf⟩ := hs_bi hf
      obtain ⟨_, h74, hf⟩ := hs_bi hf
      obtain ⟨_, σ70, h69, hf⟩ := hs_b2i hf
      obtain ⟨_, h72, hf⟩ := hs_bi hf
      refine hs_call1 (va_runIN (As := [.int v8, .int 2]) (rest := [.ref (ad66 (hs_N σ53)), .ref (ad66 n63)]) ⟨hx, hb, hml, hown, hts⟩ (ctX5_init l fu σ64 (hs_N σ53) v8 2 X ad66 H.size _ _ h69) ⟨va_cnB 2 hts gX7_team_X5_init_n64 rfl rfl rfl (hNw (.methodLinkNest "ServiceGame" 64 yX5_init "ServiceGame") (by decide +kernel)) (hts _ lkX7_team_4) (by decide +kernel) ⟨Nat.le_of_ble_eq_true rfl, Nat.le_of_ble_eq_true rfl⟩, rfl, (hts _ lkX7_team_5)⟩ (hs_pre hV hB hS hA0 hA hem) rfl rfl hl.1 rfl (lv_room (Nat.le_of_ble_eq_true rfl)) dX7_team_40 ⟨Nat.le_of_ble_eq_true rfl, Nat.le_of_ble_eq_true rfl⟩) hB hS hA (fun ad75 H locs g76 hB hS => ?_)
      have hem : ad75 hs_em = X.2.2.1.2.2.2 := (g76 _ (Or.inr rfl)).trans hem
      have hag := hs_agt hag hN0 g76
      have hl : lv_has ls 3 [(2, .int 2), (1, .int v8), (0, .ref (ad75 o))] := by rw [g76 o (Or.inl (hs_lv_i h74 _ (List.mem_of_getElem? (i := 2) rfl)))]; exact hl
      refine W.eq (g2 := F0 m 43 ls [.ref (ad75 (hs_N σ53)), .ref (ad75 n63)]) (by rw [g76 (hs_N σ53) (Or.inl (hs_lv_i h74 _ (List.mem_of_getElem? (i := 0) rfl))), g76 n63 (Or.inl (hs_lv_i h74 _ (List.mem_of_getElem? (i := 1) rfl)))] <;> rfl) ?_
      have hN0 : N0 ≤ hs_N σ70 := Nat.le_trans hN0 (hs_le_i h72)
      obtain ⟨_, h79, hf⟩ := hs_bi hf
      obtain ⟨_, h83, hf⟩ := hs_bi hf
      obtain ⟨v81, σ78, h77, hf⟩ := hs_b2i hf
      obtain ⟨_, h80, hf⟩ := hs_bi hf
      refine hs_call1 (va_runV (As := [.ref (ad75 (hs_N σ53))]) (rest := []) ⟨hx, hb, hml, hown, hts⟩ (ctJx4a65c_add_9ea2d l fu σ70 n63 (hs_N σ53) X ad75 H.size _ _ h77) (cwV 1 hts gX7_team_Jx4a65c_add_9ea2d rfl rfl rfl (by decide +kernel) ⟨Nat.le_of_ble_eq_true rfl, Nat.le_of_ble_eq_true rfl⟩) (hs_preV (hs_recv hK hB (hs_ck_i h79) (by decide) rfl) hV hB hS hA0 hA hem) rfl rfl hl.1 rfl (lv_room (Nat.le_of_ble_eq_true rfl)) dX7_team_43 ⟨Nat.le_of_ble_eq_true rfl, Nat.le_of_ble_eq_true rfl⟩) hB hS hA (fun ad84 H locs g85 hB hS => ?_)
      have hem : ad84 hs_em = X.2.2.1.2.2.2 := (g85 _ (Or.inr rfl)).trans hem
      have hag := hs_agt hag hN0 g85
      have hl : lv_has ls 3 [(2, .int 2), (1, .int v8), (0, .ref (ad84 o))] := by rw [g85 o (Or.inl (hs_lv_i h83 _ (List.mem_of_getElem? (i := 0) rfl)))]; exact hl
      refine W.eq (g2 := F0 m 46 ls [.int v81]) rfl ?_
      have hN0 : N0 ≤ hs_N σ78 := Nat.le_trans hN0 (hs_le_i h80)
      refine lv_pop hx hb dX7_team_46 rfl ?_
      refine lv_iinc (v := 3) (lv' := [(2, .int 3), (1, .int v8), (0, .ref (ad84 o))]) hx hb dX7_team_47 hl (k := 0) rfl (by decide) (by decide) rfl (fun ls hl => ?_)
      refine lv_goto (tgt := 25) hx hb dX7_team_50 (by decide) ?_
      refine lv_iload_n hx hb dX7_team_25 rfl (lv_at hl 0 rfl) ?_
      refine lv_iconst (v := 3) hx hb dX7_team_26 (by decide) ?_
      refine lv_icmp_ge (tgt := 53) hx hb dX7_team_27 (by decide) (fun _ => ?_) (fun h86 => absurd h86 (by decide))
      refine lv_iload_n hx hb dX7_team_53 rfl (lv_at hl 1 rfl) ?_
      obtain ⟨rfl, rfl⟩ := hs_ri hf
      refine W.widen (k := 27) (n := 3705) (Nat.le_of_ble_eq_true rfl) (Nat.le_of_ble_eq_true rfl) ?_
      exact hs_iret1 hx hb hr hlk hag hB hS dX7_team_54
    · have hf := hs_ff h10 hf
      refine lv_bipush (v := (-4)) hx hb dX7_team_20 (by decide) ?_
      obtain ⟨rfl, rfl⟩ := hs_ri hf
      refine W.widen (k := 27) (n := 3705) (Nat.le_of_ble_eq_true rfl) (Nat.le_of_ble_eq_true rfl) ?_
      exact hs_iret1 hx hb hr hlk hag hB hS dX7_team_22
  · have hf := hs_ff h3 hf
    refine lv_bipush (v := (-3)) hx hb dX7_team_7 (by decide) ?_
    obtain ⟨rfl, rfl⟩ := hs_ri hf
    refine W.widen (k := 27) (n := 3705) (Nat.le_of_ble_eq_true rfl) (Nat.le_of_ble_eq_true rfl) ?_
    exact hs_iret1 hx hb hr hlk hag hB hS dX7_team_9
end SX7_team
set_option maxRecDepth 100000 in
theorem ctX7_team (l : Launch) (fu : Nat) (σ : hs_T) (o : Nat) : hs_C1 hs_tvi l yX7_team wsX7_team rmX7_team 27 3705 (fun ad => [.ref (ad o)]) σ (fX7_team fu σ o) := by
  intro X ad sz r τ hf
  refine hs_enter (cc := cX7_team) (maxL := 3) (ret := (some .int)) (by decide) rfl (Nat.le_of_ble_eq_true rfl) ?_
  intro p e s m below meth c ls C hl hem hB hS hsz
  exact wX7_team_e fu C hem σ o hf hB hS hl rfl
/-! ServiceGame.patch(II)I -/
abbrev rmX7_patch : Room := { frames := 4, cells := 3, slots := 51, locals := 89 }
theorem inX7_patch_X3 : ∀ w ∈ wsX30, w ∈ wsX7_patch := fun _ h => List.mem_cons_of_mem _ (List.mem_append_left _ (List.mem_append_left _ (List.mem_append_right _ h)))
theorem inX7_patch_X5 : ∀ w ∈ wsX50, w ∈ wsX7_patch := fun _ h => List.mem_cons_of_mem _ (List.mem_append_left _ (List.mem_append_left _ (List.mem_append_left _ (List.mem_append_right _ h))))
theorem inX7_patch_X6 : ∀ w ∈ wsX60, w ∈ wsX7_patch := fun _ h => List.mem_cons_of_mem _ (List.mem_append_left _ (List.mem_append_left _ (List.mem_append_left _ (List.mem_append_left _ (List.mem_append_right _ h)))))
theorem inX7_patch_X7 : ∀ w ∈ wsX70, w ∈ wsX7_patch := fun _ h => List.mem_cons_of_mem _ (List.mem_append_left _ (List.mem_append_left _ (List.mem_append_left _ (List.mem_append_left _ (List.mem_append_left _ (List.mem_append_right _ h))))))
theorem lkX7_patch_0 : Cond.fieldLink RX7 33 "ServiceGame" "reader" "LServiceGame$Reader;" ∈ wsX7_patch := by decide +kernel
theorem lkX7_patch_1 : Cond.fieldLink RX7 26 "ServiceGame" "tape" "LServiceGame$Tape;" ∈ wsX7_patch := by decide +kernel
theorem lkX7_patch_2 : Cond.initialized RX4 ∈ wsX7_patch := by decide +kernel
theorem lkX7_patch_3 : Cond.instanceMethod yX4_read ∈ wsX7_patch := by decide +kernel
theorem lkX7_patch_4 : Cond.selects RX4 yX4_read yX4_read ∈ wsX7_patch := by decide +kernel
theorem lkX7_patch_5 : Cond.instanceMethod yX4_program ∈ wsX7_patch := by decide +kernel
theorem lkX7_patch_6 : Cond.selects RX4 yX4_program yX4_program ∈ wsX7_patch := by decide +kernel
def fX7_patch (fu : Nat) (σ : hs_T) (o : Nat) (a1 : Int32) (a2 : Int32) : Option (Int32 × hs_T) :=
 (hs_ck σ 9 o).bind fun _ =>
 hs_b2 (fX7_find fu σ o a1 a2) fun r5 σ2 =>
 (hs_le (hs_N σ) (hs_N σ2)).bind fun _ =>
 hs_mt r5
 (some ((-1), σ2))
 (fun n6 =>
 (hs_gN σ2 9 o 4).bind fun n8 =>
 (hs_gN σ2 9 o 3).bind fun n10 =>
 (hs_ck σ2 6 n8).bind fun _ =>
 hs_b2 (fX4_read fu σ2 n8 n10) fun v15 σ12 =>
 (hs_le (hs_N σ2) (hs_N σ12)).bind fun _ =>
 (hs_gN σ12 9 o 3).bind fun n18 =>
 (hs_pI σ12 8 n18 1 0).bind fun σ20 =>
 if v15 = (-1) then
 ((hs_gN σ20 9 o 4).bind fun n23 =>
 (hs_ck σ20 6 n23).bind fun _ =>
 (hs_lv σ20 [n6]).bind fun _ =>
 hs_b2 (fX4_program fu σ20 n23) fun r28 σ25 =>
 (hs_le (hs_N σ20) (hs_N σ25)).bind fun _ =>
 hs_mt r28 none (fun n29 =>
 (hs_pR σ25 7 n6 10 (some n29)).bind fun σ34 =>
 (hs_gI σ34 5 n29 0).bind fun v36 =>
 some (v36, σ34)))
 else
 (some (((-10) - v15), σ20)))
section SX7_patch
variable {p : Program} {l : Launch} {e : Env} {s : State} {m : MethodId} {args : Array Value} {below : List Frame} {meth : Method} {c : Code} {X : hs_X} {ad : Nat → Nat} {A : Nat → Prop} {r : Int32} {τ : hs_T} {N0 : Nat}
set_option maxRecDepth 100000 in
set_option maxHeartbeats 4000000 in
theorem wX7_patch_e (fu : Nat) (C : hs_Cx p s m args meth c X A yX7_patch cX7_patch 6 (some .int) wsX7_patch) (hem : ad hs_em = X.2.2.1.2.2.2) {H : Heap} {locs : List Loc} {ls : Array Slot} (σ : hs_T) (o : Nat) (a1 : Int32) (a2 : Int32) (hf : fX7_patch fu σ o a1 a2 = some (r, τ)) (hB : hs_H X.1 X.2.1 ad A σ H) (hS : va_S A s.heap H locs) (hl : lv_has ls 6 [(0, .ref (ad o)), (1, .int a1), (2, .int a2)]) (hN : N0 = hs_N σ) : W p l e rmX7_patch s m args below meth c H locs 0 0 (MQ below (hs_Q1 hs_tvi X ad N0 A r τ) args s 3 51 A) (F0 m 0 ls []) := by
  obtain ⟨hx, hb, hml, hr, hts, hown, hlk, hnm, hV, hA0, hA⟩ := id C
  have hown : s.vm.findClass RX7 = some m.cls := hown
  have hK := hV.1
  have hNw := hV.2.1
  unfold fX7_patch at hf
  have hag : hs_Ag N0 ad ad := fun _ _ => rfl
  have hN0 : N0 ≤ hs_N σ := Nat.le_of_eq hN
  refine lv_aload_n hx hb dX7_patch_0 rfl (lv_at hl 0 rfl) ?_
  refine lv_iload_n hx hb dX7_patch_1 rfl (lv_at hl 1 rfl) ?_
  refine lv_iload_n hx hb dX7_patch_2 rfl (lv_at hl 2 rfl) ?_
  obtain ⟨_, h3, hf⟩ := hs_bi hf
  obtain ⟨r5, σ2, h1, hf⟩ := hs_b2i hf
  obtain ⟨_, h4, hf⟩ := hs_bi hf
  cases r5 with
  | none =>
    have hf := hs_mn hf
    refine hs_call0 (va_runV (As := [.int a1, .int a2]) (rest := []) ⟨hx, hb, hml, hown, hts⟩ (ctX7_find l fu σ o a1 a2 X ad H.size _ _ h1) (cwV 2 hts gX7_patch_X7_find rfl rfl rfl (by decide +kernel) ⟨Nat.le_of_ble_eq_true rfl, Nat.le_of_ble_eq_true rfl⟩) (hs_preV (hs_recv hK hB (hs_ck_i h3) (by decide) rfl) hV hB hS hA0 hA hem) rfl rfl hl.1 rfl (lv_room (Nat.le_of_ble_eq_true rfl)) dX7_patch_3 ⟨Nat.le_of_ble_eq_true rfl, Nat.le_of_ble_eq_true rfl⟩) hB hS hA rfl (fun H locs hB hS => ?_)
    have hN0 : N0 ≤ hs_N σ2 := Nat.le_trans hN0 (hs_le_i h4)
    refine lv_astore_nN (lv' := [(3, .null), (0, .ref (ad o)), (1, .int a1), (2, .int a2)]) hx hb dX7_patch_6 rfl hl (by decide) rfl (fun ls hl => ?_)
    refine lv_aload_nN hx hb dX7_patch_7 rfl (lv_at hl 0 rfl) ?_
    refine lv_ifnonnullN hx hb dX7_patch_8 ?_
    refine lv_iconst (v := (-1)) hx hb dX7_patch_11 (by decide) ?_
    obtain ⟨rfl, rfl⟩ := hs_ri hf
    refine W.widen (k := 3) (n := 51) (Nat.le_of_ble_eq_true rfl) (Nat.le_of_ble_eq_true rfl) ?_
    exact hs_iret1 hx hb hr hlk hag hB hS dX7_patch_12
  | some n6 =>
    have hf := hs_ms hf
    refine hs_call0 (va_runV (As := [.int a1, .int a2]) (rest := []) ⟨hx, hb, hml, hown, hts⟩ (ctX7_find l fu σ o a1 a2 X ad H.size _ _ h1) (cwV 2 hts gX7_patch_X7_find rfl rfl rfl (by decide +kernel) ⟨Nat.le_of_ble_eq_true rfl, Nat.le_of_ble_eq_true rfl⟩) (hs_preV (hs_recv hK hB (hs_ck_i h3) (by decide) rfl) hV hB hS hA0 hA hem) rfl rfl hl.1 rfl (lv_room (Nat.le_of_ble_eq_true rfl)) dX7_patch_3 ⟨Nat.le_of_ble_eq_true rfl, Nat.le_of_ble_eq_true rfl⟩) hB hS hA rfl (fun H locs hB hS => ?_)
    have hN0 : N0 ≤ hs_N σ2 := Nat.le_trans hN0 (hs_le_i h4)
    refine lv_astore_n (lv' := [(3, .ref (ad n6)), (0, .ref (ad o)), (1, .int a1), (2, .int a2)]) hx hb dX7_patch_6 rfl hl (by decide) rfl (fun ls hl => ?_)
    refine lv_aload_n hx hb dX7_patch_7 rfl (lv_at hl 0 rfl) ?_
    refine lv_ifnonnull (tgt := 13) hx hb dX7_patch_8 (by decide) ?_
    refine lv_aload_n hx hb dX7_patch_13 rfl (lv_at hl 1 rfl) ?_
    obtain ⟨n8, h7, hf⟩ := hs_bi hf
    refine x_getN hx hb hts inX7_patch_X7 hown hK hB (by decide) rfl (k := 4) (by decide) rfl h7 (hts _ lkX7_patch_0) (fun _ h9 => h9) dX7_patch_14 ?_
    refine lv_aload_n hx hb dX7_patch_17 rfl (lv_at hl 1 rfl) ?_
    obtain ⟨n10, h9, hf⟩ := hs_bi hf
    refine x_getN hx hb hts inX7_patch_X7 hown hK hB (by decide) rfl (k := 3) (by decide) rfl h9 (hts _ lkX7_patch_1) (fun _ h9 => h9) dX7_patch_18 ?_
    obtain ⟨_, h13, hf⟩ := hs_bi hf
    obtain ⟨v15, σ12, h11, hf⟩ := hs_b2i hf
    obtain ⟨_, h14, hf⟩ := hs_bi hf
    refine hs_call0 (va_runVN (As := [.ref (ad n10)]) (rest := []) ⟨hx, hb, hml, hown, hts⟩ (ctX4_read l fu σ2 n8 n10 X ad H.size _ _ h11) ⟨va_cnB 1 hts gX7_patch_X4_read_n82 rfl rfl rfl (hNw (.methodLinkNest "ServiceGame" 82 yX4_read "ServiceGame") (by decide +kernel)) (hts _ lkX7_patch_2) (by decide +kernel) ⟨Nat.le_of_ble_eq_true rfl, Nat.le_of_ble_eq_true rfl⟩, (hts _ lkX7_patch_3), (hts _ lkX7_patch_4)⟩ (hs_preV (hs_recv hK hB (hs_ck_i h13) (by decide) rfl) hV hB hS hA0 hA hem) rfl rfl hl.1 rfl (lv_room (Nat.le_of_ble_eq_true rfl)) dX7_patch_21 ⟨Nat.le_of_ble_eq_true rfl, Nat.le_of_ble_eq_true rfl⟩) hB hS hA rfl (fun H locs hB hS => ?_)
    have hN0 : N0 ≤ hs_N σ12 := Nat.le_trans hN0 (hs_le_i h14)
    refine lv_istore (lv' := [(4, .int v15), (3, .ref (ad n6)), (0, .ref (ad o)), (1, .int a1), (2, .int a2)]) hx hb dX7_patch_24 hl (by decide) rfl (fun ls hl => ?_)
    refine lv_aload_n hx hb dX7_patch_26 rfl (lv_at hl 2 rfl) ?_
    obtain ⟨n18, h17, hf⟩ := hs_bi hf
    refine x_getN hx hb hts inX7_patch_X7 hown hK hB (by decide) rfl (k := 3) (by decide) rfl h17 (hts _ lkX7_patch_1) (fun _ h9 => h9) dX7_patch_27 ?_
    refine lv_iconst (v := 0) hx hb dX7_patch_30 (by decide) ?_
    obtain ⟨σ20, h19, hf⟩ := hs_bi hf
    refine x_putIN hx hb hts inX7_patch_X6 tyX6_ok nmX6 hown hK hB hS (by decide) rfl (k := 1) (by decide) rfl h19 (hNw (.fieldLinkNest "ServiceGame" 71 "ServiceGame$Tape" "size" "I" "ServiceGame") (by decide +kernel)) (fun _ h9 => h9) rfl (by decide +kernel) dX7_patch_31 (fun H locs hB hS => ?_)
    have hN0 : N0 ≤ hs_N σ20 := by rw [hs_pI_N h19]; exact hN0
    refine lv_iload hx hb dX7_patch_34 (lv_at hl 0 rfl) ?_
    refine lv_iconst (v := (-1)) hx hb dX7_patch_36 (by decide) ?_
    refine lv_icmp_eq (tgt := 46) hx hb dX7_patch_37 (by decide) (fun h21 => ?_) (fun h21 => ?_)
    · have hf := hs_tt h21 hf
      refine lv_aload_n hx hb dX7_patch_46 rfl (lv_at hl 2 rfl) ?_
      obtain ⟨n23, h22, hf⟩ := hs_bi hf
      refine x_getN hx hb hts inX7_patch_X7 hown hK hB (by decide) rfl (k := 4) (by decide) rfl h22 (hts _ lkX7_patch_0) (fun _ h9 => h9) dX7_patch_47 ?_
      obtain ⟨_, h26, hf⟩ := hs_bi hf
      have hl := lv_sub hl [1] (l' := [(3, .ref (ad n6))]) rfl
      obtain ⟨_, h30, hf⟩ := hs_bi hf
      obtain ⟨r28, σ25, h24, hf⟩ := hs_b2i hf
      obtain ⟨_, h27, hf⟩ := hs_bi hf
      obtain ⟨n29, hf, rfl⟩ := hs_mx hf
      refine hs_call1 (va_runVN (As := []) (rest := []) ⟨hx, hb, hml, hown, hts⟩ (ctX4_program l fu σ20 n23 X ad H.size _ _ h24) ⟨va_cnB 0 hts gX7_patch_X4_program_n86 rfl rfl rfl (hNw (.methodLinkNest "ServiceGame" 86 yX4_program "ServiceGame") (by decide +kernel)) (hts _ lkX7_patch_2) (by decide +kernel) ⟨Nat.le_of_ble_eq_true rfl, Nat.le_of_ble_eq_true rfl⟩, (hts _ lkX7_patch_5), (hts _ lkX7_patch_6)⟩ (hs_preV (hs_recv hK hB (hs_ck_i h26) (by decide) rfl) hV hB hS hA0 hA hem) rfl rfl hl.1 rfl (lv_room (Nat.le_of_ble_eq_true rfl)) dX7_patch_50 ⟨Nat.le_of_ble_eq_true rfl, Nat.le_of_ble_eq_true rfl⟩) hB hS hA (fun ad31 H locs g32 hB hS => ?_)
      have hem : ad31 hs_em = X.2.2.1.2.2.2 := (g32 _ (Or.inr rfl)).trans hem
      have hag := hs_agt hag hN0 g32
      have hl : lv_has ls 6 [(3, .ref (ad31 n6))] := by rw [g32 n6 (Or.inl (hs_lv_i h30 _ (List.mem_of_getElem? (i := 0) rfl)))]; exact hl
      refine W.eq (g2 := F0 m 53 ls [.ref (ad31 n29)]) rfl ?_
      have hN0 : N0 ≤ hs_N σ25 := Nat.le_trans hN0 (hs_le_i h27)
      refine lv_astore (lv' := [(5, .ref (ad31 n29)), (3, .ref (ad31 n6))]) hx hb dX7_patch_53 hl (by decide) rfl (fun ls hl => ?_)
      refine lv_aload_n hx hb dX7_patch_55 rfl (lv_at hl 1 rfl) ?_
      refine lv_aload hx hb dX7_patch_56 (lv_at hl 0 rfl) ?_
      obtain ⟨σ34, h33, hf⟩ := hs_bi hf
      refine x_putRsN hx hb hts inX7_patch_X5 tyX5_ok nmX5 hown hK hB hS (by decide) rfl (k := 10) (by decide) rfl h33 (hNw (.fieldLinkNest "ServiceGame" 90 "ServiceGame$Service" "patch" "LServiceGame$Program;" "ServiceGame") (by decide +kernel)) (fun _ h9 => h9) rfl (ty := .object "ServiceGame$Program") (by decide +kernel) rfl rfl dX7_patch_58 (fun H locs hB hS => ?_)
      have hN0 : N0 ≤ hs_N σ34 := by rw [hs_pR_N h33]; exact hN0
      refine lv_aload hx hb dX7_patch_61 (lv_at hl 0 rfl) ?_
      obtain ⟨v36, h35, hf⟩ := hs_bi hf
      refine x_getIN hx hb hts inX7_patch_X3 hown hK hB (by decide) rfl (k := 0) (by decide) rfl h35 (hNw (.fieldLinkNest "ServiceGame" 94 "ServiceGame$Program" "size" "I" "ServiceGame") (by decide +kernel)) (fun _ h9 => h9) dX7_patch_63 ?_
      obtain ⟨rfl, rfl⟩ := hs_ri hf
      refine W.widen (k := 3) (n := 51) (Nat.le_of_ble_eq_true rfl) (Nat.le_of_ble_eq_true rfl) ?_
      exact hs_iret1 hx hb hr hlk hag hB hS dX7_patch_66
    · have hf := hs_ff h21 hf
      refine lv_bipush (v := (-10)) hx hb dX7_patch_40 (by decide) ?_
      refine lv_iload hx hb dX7_patch_42 (lv_at hl 0 rfl) ?_
      refine lv_isub hx hb dX7_patch_44 ?_
      obtain ⟨rfl, rfl⟩ := hs_ri hf
      refine W.widen (k := 3) (n := 51) (Nat.le_of_ble_eq_true rfl) (Nat.le_of_ble_eq_true rfl) ?_
      exact hs_iret1 hx hb hr hlk hag hB hS dX7_patch_45
end SX7_patch
set_option maxRecDepth 100000 in
theorem ctX7_patch (l : Launch) (fu : Nat) (σ : hs_T) (o : Nat) (a1 : Int32) (a2 : Int32) : hs_C1 hs_tvi l yX7_patch wsX7_patch rmX7_patch 3 51 (fun ad => [.ref (ad o), .int a1, .int a2]) σ (fX7_patch fu σ o a1 a2) := by
  intro X ad sz r τ hf
  refine hs_enter (cc := cX7_patch) (maxL := 6) (ret := (some .int)) (by decide) rfl (Nat.le_of_ble_eq_true rfl) ?_
  intro p e s m below meth c ls C hl hem hB hS hsz
  exact wX7_patch_e fu C hem σ o a1 a2 hf hB hS hl rfl
/-! ServiceGame.hand(IIII)I -/
abbrev rmX7_hand : Room := { frames := 7, cells := 2, slots := 603, locals := 149 }
theorem inX7_hand_X0 : ∀ w ∈ wsX00, w ∈ wsX7_hand := fun _ h => List.mem_cons_of_mem _ (List.mem_append_left _ (List.mem_append_left _ (List.mem_append_right _ h)))
theorem inX7_hand_X7 : ∀ w ∈ wsX70, w ∈ wsX7_hand := fun _ h => List.mem_cons_of_mem _ (List.mem_append_left _ (List.mem_append_left _ (List.mem_append_left _ (List.mem_append_right _ h))))
theorem lkX7_hand_0 : Cond.fieldLink RX7 54 "ServiceGame" "rounds" "I" ∈ wsX7_hand := by decide +kernel
theorem lkX7_hand_1 : Cond.initialized RX5 ∈ wsX7_hand := by decide +kernel
theorem lkX7_hand_2 : Cond.instanceMethod yX5_take ∈ wsX7_hand := by decide +kernel
theorem lkX7_hand_3 : Cond.selects RX5 yX5_take yX5_take ∈ wsX7_hand := by decide +kernel
theorem lkX7_hand_4 : Cond.fieldLink RX7 20 "ServiceGame" "log" "Ljava/util/ArrayList;" ∈ wsX7_hand := by decide +kernel
theorem lkX7_hand_5 : Cond.classLink RX7 191 RX0 ∈ wsX7_hand := by decide +kernel
theorem lkX7_hand_6 : Cond.instantiable RX0 3 ∈ wsX7_hand := by decide +kernel
theorem lkX7_hand_7 : Cond.initialized RX0 ∈ wsX7_hand := by decide +kernel
theorem lkX7_hand_8 : Cond.instanceMethod yX0_init ∈ wsX7_hand := by decide +kernel
def fX7_hand (fu : Nat) (σ : hs_T) (o : Nat) (a1 : Int32) (a2 : Int32) (a3 : Int32) (a4 : Int32) : Option (Int32 × hs_T) :=
 (hs_ck σ 9 o).bind fun _ =>
 hs_b2 (fX7_find fu σ o a2 a3) fun r5 σ2 =>
 (hs_le (hs_N σ) (hs_N σ2)).bind fun _ =>
 hs_mt r5
 ((hs_ck σ2 9 o).bind fun _ =>
 hs_b2 (fX7_isTeam fu σ2 o a1) fun v11 σ8 =>
 (hs_le (hs_N σ2) (hs_N σ8)).bind fun _ =>
 if v11 = 0 then
 (some ((-1), σ8))
 else
 (some ((-1), σ8)))
 (fun n6 =>
 (hs_ck σ2 9 o).bind fun _ =>
 hs_b2 (fX7_isTeam fu σ2 o a1) fun v18 σ15 =>
 (hs_le (hs_N σ2) (hs_N σ15)).bind fun _ =>
 if v18 = 0 then
 (some ((-1), σ15))
 else
 (hs_b2 (fX7_isNumber fu σ15 a4) fun v24 σ22 =>
 (hs_le (hs_N σ15) (hs_N σ22)).bind fun _ =>
 if v24 = 0 then
 (some ((-2), σ22))
 else
 (if a1 = a2 then
 (some ((-2), σ22))
 else
 ((hs_ck σ22 9 o).bind fun _ =>
 hs_b2 (fX7_roundThatCounts fu σ22 o a1 n6 a4) fun v32 σ29 =>
 (hs_le (hs_N σ22) (hs_N σ29)).bind fun _ =>
 if 0 ≤ v32 then
 ((hs_gI σ29 9 o 8).bind fun v36 =>
 (hs_ck σ29 7 n6).bind fun _ =>
 hs_b2 (fX5_take fu σ29 n6 a1 v32 v36) fun _ σ38 =>
 (hs_le (hs_N σ29) (hs_N σ38)).bind fun _ =>
 (hs_gN σ38 9 o 2).bind fun n43 =>
 (hs_lv σ38 [n43, n6]).bind fun _ =>
 (hs_nO σ38 2).bind fun σ44 =>
 (hs_ck σ44 2 (hs_N σ38)).bind fun _ =>
 hs_b2 (fX0_init fu σ44 (hs_N σ38) a1 n6 v32) fun _ σ50 =>
 (hs_le (hs_N σ44) (hs_N σ50)).bind fun _ =>
 (hs_ck σ50 1 n43).bind fun _ =>
 hs_b2 (fJx4a65c_add_9ea2d fu σ50 n43 (hs_N σ38)) fun v58 σ55 =>
 (hs_le (hs_N σ50) (hs_N σ55)).bind fun _ =>
 some (v32, σ55))
 else
 (some ((-3), σ29))))))
section SX7_hand
variable {p : Program} {l : Launch} {e : Env} {s : State} {m : MethodId} {args : Array Value} {below : List Frame} {meth : Method} {c : Code} {X : hs_X} {ad : Nat → Nat} {A : Nat → Prop} {r : Int32} {τ : hs_T} {N0 : Nat}
set_option maxRecDepth 100000 in
set_option maxHeartbeats 4000000 in
theorem wX7_hand_e (fu : Nat) (C : hs_Cx p s m args meth c X A yX7_hand cX7_hand 7 (some .int) wsX7_hand) (hem : ad hs_em = X.2.2.1.2.2.2) {H : Heap} {locs : List Loc} {ls : Array Slot} (σ : hs_T) (o : Nat) (a1 : Int32) (a2 : Int32) (a3 : Int32) (a4 : Int32) (hf : fX7_hand fu σ o a1 a2 a3 a4 = some (r, τ)) (hB : hs_H X.1 X.2.1 ad A σ H) (hS : va_S A s.heap H locs) (hl : lv_has ls 7 [(0, .ref (ad o)), (1, .int a1), (2, .int a2), (3, .int a3), (4, .int a4)]) (hN : N0 = hs_N σ) : W p l e rmX7_hand s m args below meth c H locs 0 0 (MQ below (hs_Q1 hs_tvi X ad N0 A r τ) args s 2 603 A) (F0 m 0 ls []) := by
  obtain ⟨hx, hb, hml, hr, hts, hown, hlk, hnm, hV, hA0, hA⟩ := id C
  have hown : s.vm.findClass RX7 = some m.cls := hown
  have hK := hV.1
  have hNw := hV.2.1
  unfold fX7_hand at hf
  have hag : hs_Ag N0 ad ad := fun _ _ => rfl
  have hN0 : N0 ≤ hs_N σ := Nat.le_of_eq hN
  refine lv_aload_n hx hb dX7_hand_0 rfl (lv_at hl 0 rfl) ?_
  refine lv_iload_n hx hb dX7_hand_1 rfl (lv_at hl 2 rfl) ?_
  refine lv_iload_n hx hb dX7_hand_2 rfl (lv_at hl 3 rfl) ?_
  obtain ⟨_, h3, hf⟩ := hs_bi hf
  obtain ⟨r5, σ2, h1, hf⟩ := hs_b2i hf
  obtain ⟨_, h4, hf⟩ := hs_bi hf
  cases r5 with
  | none =>
    have hf := hs_mn hf
    refine hs_call0 (va_runV (As := [.int a2, .int a3]) (rest := []) ⟨hx, hb, hml, hown, hts⟩ (ctX7_find l fu σ o a2 a3 X ad H.size _ _ h1) (cwV 2 hts gX7_hand_X7_find rfl rfl rfl (by decide +kernel) ⟨Nat.le_of_ble_eq_true rfl, Nat.le_of_ble_eq_true rfl⟩) (hs_preV (hs_recv hK hB (hs_ck_i h3) (by decide) rfl) hV hB hS hA0 hA hem) rfl rfl hl.1 rfl (lv_room (Nat.le_of_ble_eq_true rfl)) dX7_hand_3 ⟨Nat.le_of_ble_eq_true rfl, Nat.le_of_ble_eq_true rfl⟩) hB hS hA rfl (fun H locs hB hS => ?_)
    have hN0 : N0 ≤ hs_N σ2 := Nat.le_trans hN0 (hs_le_i h4)
    refine lv_astoreN (lv' := [(5, .null), (0, .ref (ad o)), (1, .int a1), (2, .int a2), (3, .int a3), (4, .int a4)]) hx hb dX7_hand_6 hl (by decide) rfl (fun ls hl => ?_)
    refine lv_aload_n hx hb dX7_hand_8 rfl (lv_at hl 1 rfl) ?_
    refine lv_iload_n hx hb dX7_hand_9 rfl (lv_at hl 2 rfl) ?_
    obtain ⟨_, h9, hf⟩ := hs_bi hf
    obtain ⟨v11, σ8, h7, hf⟩ := hs_b2i hf
    obtain ⟨_, h10, hf⟩ := hs_bi hf
    refine hs_call0 (va_runV (As := [.int a1]) (rest := []) ⟨hx, hb, hml, hown, hts⟩ (ctX7_isTeam l fu σ2 o a1 X ad H.size _ _ h7) (cwV 1 hts gX7_hand_X7_isTeam rfl rfl rfl (by decide +kernel) ⟨Nat.le_of_ble_eq_true rfl, Nat.le_of_ble_eq_true rfl⟩) (hs_preV (hs_recv hK hB (hs_ck_i h9) (by decide) rfl) hV hB hS hA0 hA hem) rfl rfl hl.1 rfl (lv_room (Nat.le_of_ble_eq_true rfl)) dX7_hand_10 ⟨Nat.le_of_ble_eq_true rfl, Nat.le_of_ble_eq_true rfl⟩) hB hS hA rfl (fun H locs hB hS => ?_)
    have hN0 : N0 ≤ hs_N σ8 := Nat.le_trans hN0 (hs_le_i h10)
    refine lv_if_eq (tgt := 21) hx hb dX7_hand_13 (by decide) (fun h13 => ?_) (fun h13 => ?_)
    · have hf := hs_tt h13 hf
      refine lv_iconst (v := (-1)) hx hb dX7_hand_21 (by decide) ?_
      obtain ⟨rfl, rfl⟩ := hs_ri hf
      refine W.widen (k := 2) (n := 603) (Nat.le_of_ble_eq_true rfl) (Nat.le_of_ble_eq_true rfl) ?_
      exact hs_iret1 hx hb hr hlk hag hB hS dX7_hand_22
    · have hf := hs_ff h13 hf
      refine lv_aloadN hx hb dX7_hand_16 (lv_at hl 0 rfl) ?_
      refine lv_ifnonnullN hx hb dX7_hand_18 ?_
      refine lv_iconst (v := (-1)) hx hb dX7_hand_21 (by decide) ?_
      obtain ⟨rfl, rfl⟩ := hs_ri hf
      refine W.widen (k := 2) (n := 603) (Nat.le_of_ble_eq_true rfl) (Nat.le_of_ble_eq_true rfl) ?_
      exact hs_iret1 hx hb hr hlk hag hB hS dX7_hand_22
  | some n6 =>
    have hf := hs_ms hf
    refine hs_call0 (va_runV (As := [.int a2, .int a3]) (rest := []) ⟨hx, hb, hml, hown, hts⟩ (ctX7_find l fu σ o a2 a3 X ad H.size _ _ h1) (cwV 2 hts gX7_hand_X7_find rfl rfl rfl (by decide +kernel) ⟨Nat.le_of_ble_eq_true rfl, Nat.le_of_ble_eq_true rfl⟩) (hs_preV (hs_recv hK hB (hs_ck_i h3) (by decide) rfl) hV hB hS hA0 hA hem) rfl rfl hl.1 rfl (lv_room (Nat.le_of_ble_eq_true rfl)) dX7_hand_3 ⟨Nat.le_of_ble_eq_true rfl, Nat.le_of_ble_eq_true rfl⟩) hB hS hA rfl (fun H locs hB hS => ?_)
    have hN0 : N0 ≤ hs_N σ2 := Nat.le_trans hN0 (hs_le_i h4)
    refine lv_astore (lv' := [(5, .ref (ad n6)), (0, .ref (ad o)), (1, .int a1), (2, .int a2), (3, .int a3), (4, .int a4)]) hx hb dX7_hand_6 hl (by decide) rfl (fun ls hl => ?_)
    refine lv_aload_n hx hb dX7_hand_8 rfl (lv_at hl 1 rfl) ?_
    refine lv_iload_n hx hb dX7_hand_9 rfl (lv_at hl 2 rfl) ?_
    obtain ⟨_, h16, hf⟩ := hs_bi hf
    obtain ⟨v18, σ15, h14, hf⟩ := hs_b2i hf
    obtain ⟨_, h17, hf⟩ := hs_bi hf
    refine hs_call0 (va_runV (As := [.int a1]) (rest := []) ⟨hx, hb, hml, hown, hts⟩ (ctX7_isTeam l fu σ2 o a1 X ad H.size _ _ h14) (cwV 1 hts gX7_hand_X7_isTeam rfl rfl rfl (by decide +kernel) ⟨Nat.le_of_ble_eq_true rfl, Nat.le_of_ble_eq_true rfl⟩) (hs_preV (hs_recv hK hB (hs_ck_i h16) (by decide) rfl) hV hB hS hA0 hA hem) rfl rfl hl.1 rfl (lv_room (Nat.le_of_ble_eq_true rfl)) dX7_hand_10 ⟨Nat.le_of_ble_eq_true rfl, Nat.le_of_ble_eq_true rfl⟩) hB hS hA rfl (fun H locs hB hS => ?_)
    have hN0 : N0 ≤ hs_N σ15 := Nat.le_trans hN0 (hs_le_i h17)
    refine lv_if_eq (tgt := 21) hx hb dX7_hand_13 (by decide) (fun h20 => ?_) (fun h20 => ?_)
    · have hf := hs_tt h20 hf
      refine lv_iconst (v := (-1)) hx hb dX7_hand_21 (by decide) ?_
      obtain ⟨rfl, rfl⟩ := hs_ri hf
      refine W.widen (k := 2) (n := 603) (Nat.le_of_ble_eq_true rfl) (Nat.le_of_ble_eq_true rfl) ?_
      exact hs_iret1 hx hb hr hlk hag hB hS dX7_hand_22
    · have hf := hs_ff h20 hf
      refine lv_aload hx hb dX7_hand_16 (lv_at hl 0 rfl) ?_
      refine lv_ifnonnull (tgt := 23) hx hb dX7_hand_18 (by decide) ?_
      refine lv_iload hx hb dX7_hand_23 (lv_at hl 5 rfl) ?_
      obtain ⟨v24, σ22, h21, hf⟩ := hs_b2i hf
      obtain ⟨_, h23, hf⟩ := hs_bi hf
      refine hs_call0 (va_runS (As := [.int a4]) (rest := []) ⟨hx, hb, hml, hown, hts⟩ (ctX7_isNumber l fu σ15 a4 X ad H.size _ _ h21) (va_cwS 1 hts gX7_hand_X7_isNumber rfl rfl rfl (by decide +kernel) ⟨Nat.le_of_ble_eq_true rfl, Nat.le_of_ble_eq_true rfl⟩) (hs_pre hV hB hS hA0 hA hem) rfl rfl hl.1 rfl (lv_room (Nat.le_of_ble_eq_true rfl)) dX7_hand_25 ⟨Nat.le_of_ble_eq_true rfl, Nat.le_of_ble_eq_true rfl⟩) hB hS hA rfl (fun H locs hB hS => ?_)
      have hN0 : N0 ≤ hs_N σ22 := Nat.le_trans hN0 (hs_le_i h23)
      refine lv_if_eq (tgt := 36) hx hb dX7_hand_28 (by decide) (fun h26 => ?_) (fun h26 => ?_)
      · have hf := hs_tt h26 hf
        refine lv_bipush (v := (-2)) hx hb dX7_hand_36 (by decide) ?_
        obtain ⟨rfl, rfl⟩ := hs_ri hf
        refine W.widen (k := 2) (n := 603) (Nat.le_of_ble_eq_true rfl) (Nat.le_of_ble_eq_true rfl) ?_
        exact hs_iret1 hx hb hr hlk hag hB hS dX7_hand_38
      · have hf := hs_ff h26 hf
        refine lv_iload_n hx hb dX7_hand_31 rfl (lv_at hl 2 rfl) ?_
        refine lv_iload_n hx hb dX7_hand_32 rfl (lv_at hl 3 rfl) ?_
        refine lv_icmp_ne (tgt := 39) hx hb dX7_hand_33 (by decide) (fun h27 => ?_) (fun h27 => ?_)
        · have hf := hs_ff h27 hf
          refine lv_aload_n hx hb dX7_hand_39 rfl (lv_at hl 1 rfl) ?_
          refine lv_iload_n hx hb dX7_hand_40 rfl (lv_at hl 2 rfl) ?_
          refine lv_aload hx hb dX7_hand_41 (lv_at hl 0 rfl) ?_
          refine lv_iload hx hb dX7_hand_43 (lv_at hl 5 rfl) ?_
          obtain ⟨_, h30, hf⟩ := hs_bi hf
          obtain ⟨v32, σ29, h28, hf⟩ := hs_b2i hf
          obtain ⟨_, h31, hf⟩ := hs_bi hf
          refine hs_call0 (va_runV (As := [.int a1, .ref (ad n6), .int a4]) (rest := []) ⟨hx, hb, hml, hown, hts⟩ (ctX7_roundThatCounts l fu σ22 o a1 n6 a4 X ad H.size _ _ h28) (cwV 3 hts gX7_hand_X7_roundThatCounts rfl rfl rfl (by decide +kernel) ⟨Nat.le_of_ble_eq_true rfl, Nat.le_of_ble_eq_true rfl⟩) (hs_preV (hs_recv hK hB (hs_ck_i h30) (by decide) rfl) hV hB hS hA0 hA hem) rfl rfl hl.1 rfl (lv_room (Nat.le_of_ble_eq_true rfl)) dX7_hand_45 ⟨Nat.le_of_ble_eq_true rfl, Nat.le_of_ble_eq_true rfl⟩) hB hS hA rfl (fun H locs hB hS => ?_)
          have hN0 : N0 ≤ hs_N σ29 := Nat.le_trans hN0 (hs_le_i h31)
          refine lv_istore (lv' := [(6, .int v32), (5, .ref (ad n6)), (0, .ref (ad o)), (1, .int a1), (2, .int a2), (3, .int a3), (4, .int a4)]) hx hb dX7_hand_48 hl (by decide) rfl (fun ls hl => ?_)
          refine lv_iload hx hb dX7_hand_50 (lv_at hl 0 rfl) ?_
          refine lv_if_ge (tgt := 58) hx hb dX7_hand_52 (by decide) (fun h34 => ?_) (fun h34 => ?_)
          · have hf := hs_tt h34 hf
            refine lv_aload hx hb dX7_hand_58 (lv_at hl 1 rfl) ?_
            refine lv_iload_n hx hb dX7_hand_60 rfl (lv_at hl 3 rfl) ?_
            refine lv_iload hx hb dX7_hand_61 (lv_at hl 0 rfl) ?_
            refine lv_aload_n hx hb dX7_hand_63 rfl (lv_at hl 2 rfl) ?_
            obtain ⟨v36, h35, hf⟩ := hs_bi hf
            refine x_getI hx hb hts inX7_hand_X7 hown hK hB (by decide) rfl (k := 8) (by decide) rfl h35 (hts _ lkX7_hand_0) (fun _ h9 => h9) dX7_hand_64 ?_
            obtain ⟨_, h39, hf⟩ := hs_bi hf
            obtain ⟨_, σ38, h37, hf⟩ := hs_b2i hf
            obtain ⟨_, h40, hf⟩ := hs_bi hf
            refine hs_call0 (va_runVN (As := [.int a1, .int v32, .int v36]) (rest := []) ⟨hx, hb, hml, hown, hts⟩ (ctX5_take l fu σ29 n6 a1 v32 v36 X ad H.size _ _ h37) ⟨va_cnB 3 hts gX7_hand_X5_take_n187 rfl rfl rfl (hNw (.methodLinkNest "ServiceGame" 187 yX5_take "ServiceGame") (by decide +kernel)) (hts _ lkX7_hand_1) (by decide +kernel) ⟨Nat.le_of_ble_eq_true rfl, Nat.le_of_ble_eq_true rfl⟩, (hts _ lkX7_hand_2), (hts _ lkX7_hand_3)⟩ (hs_preV (hs_recv hK hB (hs_ck_i h39) (by decide) rfl) hV hB hS hA0 hA hem) rfl rfl hl.1 rfl (lv_room (Nat.le_of_ble_eq_true rfl)) dX7_hand_67 ⟨Nat.le_of_ble_eq_true rfl, Nat.le_of_ble_eq_true rfl⟩) hB hS hA rfl (fun H locs hB hS => ?_)
            have hN0 : N0 ≤ hs_N σ38 := Nat.le_trans hN0 (hs_le_i h40)
            refine lv_aload_n hx hb dX7_hand_70 rfl (lv_at hl 2 rfl) ?_
            obtain ⟨n43, h42, hf⟩ := hs_bi hf
            refine x_getN hx hb hts inX7_hand_X7 hown hK hB (by decide) rfl (k := 2) (by decide) rfl h42 (hts _ lkX7_hand_4) (fun _ h9 => h9) dX7_hand_71 ?_
            have hl := lv_sub hl [0, 1, 3] (l' := [(6, .int v32), (5, .ref (ad n6)), (1, .int a1)]) rfl
            obtain ⟨_, h48, hf⟩ := hs_bi hf
            obtain ⟨σ44, h45, hf⟩ := hs_bi hf
            refine hs_new hx hb hts inX7_hand_X0 tyX0_ok hown (hts _ lkX7_hand_5) (hts _ lkX7_hand_6) (hts _ lkX7_hand_7) hK hB hS hA (by decide) rfl (hs_df2 _) h45 (Nat.le_of_ble_eq_true rfl) (Nat.le_of_ble_eq_true rfl) dX7_hand_74 (fun ad46 H g47 hB hS => ?_)
            have hem : ad46 hs_em = X.2.2.1.2.2.2 := (g47 _ (Or.inr rfl)).trans hem
            have hag := hs_agt hag hN0 g47
            have hl : lv_has ls 7 [(6, .int v32), (5, .ref (ad46 n6)), (1, .int a1)] := by rw [g47 n6 (Or.inl (hs_lv_i h48 _ (List.mem_of_getElem? (i := 1) rfl)))]; exact hl
            refine W.eq (g2 := F0 m 77 ls [.ref (ad46 (hs_N σ38)), .ref (ad46 n43)]) (by rw [g47 n43 (Or.inl (hs_lv_i h48 _ (List.mem_of_getElem? (i := 0) rfl)))] <;> rfl) ?_
            have hN0 : N0 ≤ hs_N σ44 := by rw [hs_nO_N h45]; exact Nat.le_succ_of_le hN0
            refine lv_dup hx hb dX7_hand_77 rfl ?_
            refine lv_iload_n hx hb dX7_hand_78 rfl (lv_at hl 2 rfl) ?_
            refine lv_aload hx hb dX7_hand_79 (lv_at hl 1 rfl) ?_
            refine lv_iload hx hb dX7_hand_81 (lv_at hl 0 rfl) ?_
            obtain ⟨_, h51, hf⟩ := hs_bi hf
            obtain ⟨_, σ50, h49, hf⟩ := hs_b2i hf
            obtain ⟨_, h52, hf⟩ := hs_bi hf
            refine hs_call0 (va_runIN (As := [.int a1, .ref (ad46 n6), .int v32]) (rest := [.ref (ad46 (hs_N σ38)), .ref (ad46 n43)]) ⟨hx, hb, hml, hown, hts⟩ (ctX0_init l fu σ44 (hs_N σ38) a1 n6 v32 X ad46 H.size _ _ h49) ⟨va_cnB 3 hts gX7_hand_X0_init_n193 rfl rfl rfl (hNw (.methodLinkNest "ServiceGame" 193 yX0_init "ServiceGame") (by decide +kernel)) (hts _ lkX7_hand_7) (by decide +kernel) ⟨Nat.le_of_ble_eq_true rfl, Nat.le_of_ble_eq_true rfl⟩, rfl, (hts _ lkX7_hand_8)⟩ (hs_pre hV hB hS hA0 hA hem) rfl rfl hl.1 rfl (lv_room (Nat.le_of_ble_eq_true rfl)) dX7_hand_83 ⟨Nat.le_of_ble_eq_true rfl, Nat.le_of_ble_eq_true rfl⟩) hB hS hA rfl (fun H locs hB hS => ?_)
            have hN0 : N0 ≤ hs_N σ50 := Nat.le_trans hN0 (hs_le_i h52)
            obtain ⟨_, h56, hf⟩ := hs_bi hf
            have hl := lv_sub hl [0] (l' := [(6, .int v32)]) rfl
            obtain ⟨v58, σ55, h54, hf⟩ := hs_b2i hf
            obtain ⟨_, h57, hf⟩ := hs_bi hf
            refine hs_call1 (va_runV (As := [.ref (ad46 (hs_N σ38))]) (rest := []) ⟨hx, hb, hml, hown, hts⟩ (ctJx4a65c_add_9ea2d l fu σ50 n43 (hs_N σ38) X ad46 H.size _ _ h54) (cwV 1 hts gX7_hand_Jx4a65c_add_9ea2d rfl rfl rfl (by decide +kernel) ⟨Nat.le_of_ble_eq_true rfl, Nat.le_of_ble_eq_true rfl⟩) (hs_preV (hs_recv hK hB (hs_ck_i h56) (by decide) rfl) hV hB hS hA0 hA hem) rfl rfl hl.1 rfl (lv_room (Nat.le_of_ble_eq_true rfl)) dX7_hand_86 ⟨Nat.le_of_ble_eq_true rfl, Nat.le_of_ble_eq_true rfl⟩) hB hS hA (fun ad60 H locs g61 hB hS => ?_)
            have hem : ad60 hs_em = X.2.2.1.2.2.2 := (g61 _ (Or.inr rfl)).trans hem
            have hag := hs_agt hag hN0 g61
            refine W.eq (g2 := F0 m 89 ls [.int v58]) rfl ?_
            have hN0 : N0 ≤ hs_N σ55 := Nat.le_trans hN0 (hs_le_i h57)
            refine lv_pop hx hb dX7_hand_89 rfl ?_
            refine lv_iload hx hb dX7_hand_90 (lv_at hl 0 rfl) ?_
            obtain ⟨rfl, rfl⟩ := hs_ri hf
            refine W.widen (k := 2) (n := 603) (Nat.le_of_ble_eq_true rfl) (Nat.le_of_ble_eq_true rfl) ?_
            exact hs_iret1 hx hb hr hlk hag hB hS dX7_hand_92
          · have hf := hs_ff h34 hf
            refine lv_bipush (v := (-3)) hx hb dX7_hand_55 (by decide) ?_
            obtain ⟨rfl, rfl⟩ := hs_ri hf
            refine W.widen (k := 2) (n := 603) (Nat.le_of_ble_eq_true rfl) (Nat.le_of_ble_eq_true rfl) ?_
            exact hs_iret1 hx hb hr hlk hag hB hS dX7_hand_57
        · have hf := hs_tt h27 hf
          refine lv_bipush (v := (-2)) hx hb dX7_hand_36 (by decide) ?_
          obtain ⟨rfl, rfl⟩ := hs_ri hf
          refine W.widen (k := 2) (n := 603) (Nat.le_of_ble_eq_true rfl) (Nat.le_of_ble_eq_true rfl) ?_
          exact hs_iret1 hx hb hr hlk hag hB hS dX7_hand_38
end SX7_hand
set_option maxRecDepth 100000 in
theorem ctX7_hand (l : Launch) (fu : Nat) (σ : hs_T) (o : Nat) (a1 : Int32) (a2 : Int32) (a3 : Int32) (a4 : Int32) : hs_C1 hs_tvi l yX7_hand wsX7_hand rmX7_hand 2 603 (fun ad => [.ref (ad o), .int a1, .int a2, .int a3, .int a4]) σ (fX7_hand fu σ o a1 a2 a3 a4) := by
  intro X ad sz r τ hf
  refine hs_enter (cc := cX7_hand) (maxL := 7) (ret := (some .int)) (by decide) rfl (Nat.le_of_ble_eq_true rfl) ?_
  intro p e s m below meth c ls C hl hem hB hS hsz
  exact wX7_hand_e fu C hem σ o a1 a2 a3 a4 hf hB hS hl rfl
