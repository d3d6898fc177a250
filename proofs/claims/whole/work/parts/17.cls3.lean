/-! ServiceGame.upPoints(II)I -/
abbrev rmX7_upPoints : Room := { frames := 3, cells := 0, slots := 0, locals := 64 }
theorem inX7_upPoints_X5 : ∀ w ∈ wsX50, w ∈ wsX7_upPoints := fun _ h => List.mem_cons_of_mem _ (List.mem_append_left _ (List.mem_append_right _ h))
theorem inX7_upPoints_X7 : ∀ w ∈ wsX70, w ∈ wsX7_upPoints := fun _ h => List.mem_cons_of_mem _ (List.mem_append_left _ (List.mem_append_left _ (List.mem_append_right _ h)))
theorem lkX7_upPoints_0 : Cond.fieldLink RX7 54 "ServiceGame" "rounds" "I" ∈ wsX7_upPoints := by decide +kernel
theorem lkX7_upPoints_1 : Cond.methodLink RX7 258 Lib.Math.min.name ∈ wsX7_upPoints := by decide +kernel
theorem lkX7_upPoints_2 : Cond.static Lib.Math.min.name ∈ wsX7_upPoints := by decide +kernel
theorem lkX7_upPoints_3 : Cond.initialized "java/lang/Math" ∈ wsX7_upPoints := by decide +kernel
theorem lkX7_upPoints_4 : Cond.code Lib.Math.min.name Lib.Math.min.code 2 (some .int) ∈ wsX7_upPoints := by decide +kernel
theorem lkX7_upPoints_5 : Cond.fieldLink RX7 16 "ServiceGame" "services" "Ljava/util/ArrayList;" ∈ wsX7_upPoints := by decide +kernel
theorem lkX7_upPoints_6 : Cond.classLink RX7 62 "ServiceGame$Service" ∈ wsX7_upPoints := by decide +kernel
def fX7_upPoints_15b (fu : Nat)  (k15 : hs_T → Nat → Int32 → Int32 → Int32 → Int32 → Option (Int32 × hs_T)) (σ : hs_T) (x0 : Nat) (x1 : Int32) (x3 : Int32) (x4 : Int32) (x5 : Int32) : Option (Int32 × hs_T) :=
 (hs_gN σ 9 x0 1).bind fun n4 =>
 (hs_ck σ 1 n4).bind fun _ =>
 hs_b2 (fJx4a65c_size_8abf5 fu σ n4) fun v8 σ6 =>
 if v8 ≤ x5 then
 (some (x4, σ6))
 else
 ((hs_gN σ6 9 x0 1).bind fun n11 =>
 (hs_ck σ6 1 n11).bind fun _ =>
 hs_b2 (fJx4a65c_get_915e3 fu σ6 n11 x5) fun r15 σ13 => hs_mt r15 none (fun n16 =>
 (hs_ck σ13 7 n16).bind fun _ =>
 (hs_gI σ13 7 n16 0).bind fun v19 =>
 if v19 = x1 then
 ((hs_gN σ13 7 n16 3).bind fun n22 =>
 (hs_ld σ13 11 n22 x3).bind fun v23 =>
 k15 σ13 x0 x1 x3 (x4 + (10 * v23)) (x5 + 1))
 else
 (k15 σ13 x0 x1 x3 x4 (x5 + 1))))
def fX7_upPoints_15 (fu : Nat)  (σ : hs_T) (x0 : Nat) (x1 : Int32) (x3 : Int32) (x4 : Int32) (x5 : Int32) : Option (Int32 × hs_T) :=
   hs_lp (fun (k : hs_T × Nat × Int32 × Int32 × Int32 × Int32 → Option (Int32 × hs_T)) (a : hs_T × Nat × Int32 × Int32 × Int32 × Int32) => fX7_upPoints_15b fu  (fun σ x0 x1 x3 x4 x5 => k (σ, x0, x1, x3, x4, x5)) a.1 a.2.1 a.2.2.1 a.2.2.2.1 a.2.2.2.2.1 a.2.2.2.2.2) fu (σ, x0, x1, x3, x4, x5)
def fX7_upPoints (fu : Nat) (σ : hs_T) (o : Nat) (a1 : Int32) (a2 : Int32) : Option (Int32 × hs_T) :=
 (hs_gI σ 9 o 8).bind fun v2 =>
 fX7_upPoints_15 fu σ o a1 (if a2 < v2 then a2 else v2) 0 0
section SX7_upPoints
variable {p : Program} {l : Launch} {e : Env} {s : State} {m : MethodId} {args : Array Value} {below : List Frame} {meth : Method} {c : Code} {X : hs_X} {ad : Nat → Nat} {A : Nat → Prop} {r : Int32} {τ : hs_T}
set_option maxRecDepth 100000 in
set_option maxHeartbeats 4000000 in
theorem wX7_upPoints_15b (fu : Nat) (C : hs_Cx p s m args meth c X A yX7_upPoints cX7_upPoints 7 (some .int) wsX7_upPoints) (hem : ad hs_em = X.2.2.1.2.2.2)  (k15 : hs_T → Nat → Int32 → Int32 → Int32 → Int32 → Option (Int32 × hs_T)) (hk15 : ∀ (σ : hs_T) (x0 : Nat) (x1 : Int32) (x3 : Int32) (x4 : Int32) (x5 : Int32) (H : Heap) (locs : List Loc) (ls : Array Slot), k15 σ x0 x1 x3 x4 x5 = some (r, τ) → hs_H X.1 X.2.1 ad A σ H → va_S A s.heap H locs → lv_has ls 7 [(0, .ref (ad x0)), (1, .int x1), (3, .int x3), (4, .int x4), (5, .int x5)] → W p l e rmX7_upPoints s m args below meth c H locs 0 0 (MQ below (hs_Q0 hs_tvi X ad A r τ) args s 0 0 A) (F0 m 15 ls [])) {H : Heap} {locs : List Loc} {ls : Array Slot} (σ : hs_T) (x0 : Nat) (x1 : Int32) (x3 : Int32) (x4 : Int32) (x5 : Int32) (hf : fX7_upPoints_15b fu  k15 σ x0 x1 x3 x4 x5 = some (r, τ)) (hB : hs_H X.1 X.2.1 ad A σ H) (hS : va_S A s.heap H locs) (hl : lv_has ls 7 [(0, .ref (ad x0)), (1, .int x1), (3, .int x3), (4, .int x4), (5, .int x5)]) : W p l e rmX7_upPoints s m args below meth c H locs 0 0 (MQ below (hs_Q0 hs_tvi X ad A r τ) args s 0 0 A) (F0 m 15 ls []) := by
  obtain ⟨hx, hb, hml, hr, hts, hown, hlk, hnm, hV, hA0, hA⟩ := id C
  have hown : s.vm.findClass RX7 = some m.cls := hown
  have hK := hV.1
  have hNw := hV.2.1
  unfold fX7_upPoints_15b at hf
  refine lv_iload hx hb dX7_upPoints_15 (lv_at hl 4 rfl) ?_
  refine lv_aload_n hx hb dX7_upPoints_17 rfl (lv_at hl 0 rfl) ?_
  obtain ⟨n4, h3, hf⟩ := hs_bi hf
  refine x_getN hx hb hts inX7_upPoints_X7 hown hK hB (by decide) rfl (k := 1) (by decide) rfl h3 (hts _ lkX7_upPoints_5) (fun _ h9 => h9) dX7_upPoints_18 ?_
  obtain ⟨_, h7, hf⟩ := hs_bi hf
  obtain ⟨v8, σ6, h5, hf⟩ := hs_b2i hf
  refine hs_call0 (va_runV (As := []) (rest := [.int x5]) ⟨hx, hb, hml, hown, hts⟩ (ctJx4a65c_size_8abf5 l fu σ n4 X ad H.size _ _ h5) (cwV 0 hts gX7_upPoints_Jx4a65c_size_8abf5 rfl rfl rfl (by decide +kernel) ⟨Nat.le_of_ble_eq_true rfl, Nat.le_of_ble_eq_true rfl⟩) (hs_preV (hs_recv hK hB (hs_ck_i h7) (by decide) rfl) hV hB hS hA0 hA hem) rfl rfl hl.1 rfl (lv_room (Nat.le_of_ble_eq_true rfl)) dX7_upPoints_21 ⟨Nat.le_of_ble_eq_true rfl, Nat.le_of_ble_eq_true rfl⟩) hB hS hA rfl (fun H locs hB hS => ?_)
  refine lv_icmp_ge (tgt := 71) hx hb dX7_upPoints_24 (by decide) (fun h9 => ?_) (fun h9 => ?_)
  · have hf := hs_tt h9 hf
    refine lv_iload hx hb dX7_upPoints_71 (lv_at hl 3 rfl) ?_
    obtain ⟨rfl, rfl⟩ := hs_ri hf
    exact hs_iret hx hb hr hlk hB hS dX7_upPoints_73
  · have hf := hs_ff h9 hf
    refine lv_aload_n hx hb dX7_upPoints_27 rfl (lv_at hl 0 rfl) ?_
    obtain ⟨n11, h10, hf⟩ := hs_bi hf
    refine x_getN hx hb hts inX7_upPoints_X7 hown hK hB (by decide) rfl (k := 1) (by decide) rfl h10 (hts _ lkX7_upPoints_5) (fun _ h9 => h9) dX7_upPoints_28 ?_
    refine lv_iload hx hb dX7_upPoints_31 (lv_at hl 4 rfl) ?_
    obtain ⟨_, h14, hf⟩ := hs_bi hf
    obtain ⟨r15, σ13, h12, hf⟩ := hs_b2i hf
    obtain ⟨n16, hf, rfl⟩ := hs_mx hf
    refine hs_call0 (va_runV (As := [.int x5]) (rest := []) ⟨hx, hb, hml, hown, hts⟩ (ctJx4a65c_get_915e3 l fu σ6 n11 x5 X ad H.size _ _ h12) (cwV 1 hts gX7_upPoints_Jx4a65c_get_915e3 rfl rfl rfl (by decide +kernel) ⟨Nat.le_of_ble_eq_true rfl, Nat.le_of_ble_eq_true rfl⟩) (hs_preV (hs_recv hK hB (hs_ck_i h14) (by decide) rfl) hV hB hS hA0 hA hem) rfl rfl hl.1 rfl (lv_room (Nat.le_of_ble_eq_true rfl)) dX7_upPoints_33 ⟨Nat.le_of_ble_eq_true rfl, Nat.le_of_ble_eq_true rfl⟩) hB hS hA rfl (fun H locs hB hS => ?_)
    obtain ⟨_, h17, hf⟩ := hs_bi hf
    refine x_cast hx hb hown (hts _ lkX7_upPoints_6) hK hB (hs_ck_i h17) (by decide) rfl dX7_upPoints_36 ?_
    refine lv_astore (lv' := [(6, .ref (ad n16)), (0, .ref (ad x0)), (1, .int x1), (3, .int x3), (4, .int x4), (5, .int x5)]) hx hb dX7_upPoints_39 hl (by decide) rfl (fun ls hl => ?_)
    refine lv_aload hx hb dX7_upPoints_41 (lv_at hl 0 rfl) ?_
    obtain ⟨v19, h18, hf⟩ := hs_bi hf
    refine x_getIN hx hb hts inX7_upPoints_X5 hown hK hB (by decide) rfl (k := 0) (by decide) rfl h18 (hNw (.fieldLinkNest "ServiceGame" 222 "ServiceGame$Service" "team" "I" "ServiceGame") (by decide +kernel)) (fun _ h9 => h9) dX7_upPoints_43 ?_
    refine lv_iload_n hx hb dX7_upPoints_46 rfl (lv_at hl 2 rfl) ?_
    refine lv_icmp_ne (tgt := 65) hx hb dX7_upPoints_47 (by decide) (fun h20 => ?_) (fun h20 => ?_)
    · have hf := hs_ff h20 hf
      refine lv_iinc (v := (x5 + 1)) (lv' := [(5, .int (x5 + 1)), (6, .ref (ad n16)), (0, .ref (ad x0)), (1, .int x1), (3, .int x3), (4, .int x4)]) hx hb dX7_upPoints_65 hl (k := 5) rfl rfl (by decide) rfl (fun ls hl => ?_)
      refine lv_goto (tgt := 15) hx hb dX7_upPoints_68 (by decide) ?_
      exact hk15 σ13 x0 x1 x3 x4 (x5 + 1) _ _ _ hf hB hS (lv_sub hl [2, 3, 4, 5, 0] rfl)
    · have hf := hs_tt h20 hf
      refine lv_iload hx hb dX7_upPoints_50 (lv_at hl 4 rfl) ?_
      refine lv_bipush (v := 10) hx hb dX7_upPoints_52 (by decide) ?_
      refine lv_aload hx hb dX7_upPoints_54 (lv_at hl 0 rfl) ?_
      obtain ⟨n22, h21, hf⟩ := hs_bi hf
      refine x_getNN hx hb hts inX7_upPoints_X5 hown hK hB (by decide) rfl (k := 3) (by decide) rfl h21 (hNw (.fieldLinkNest "ServiceGame" 102 "ServiceGame$Service" "upAhead" "[I" "ServiceGame") (by decide +kernel)) (fun _ h9 => h9) dX7_upPoints_56 ?_
      refine lv_iload_n hx hb dX7_upPoints_59 rfl (lv_at hl 3 rfl) ?_
      obtain ⟨v23, h24, hf⟩ := hs_bi hf
      refine x_iald hx hb hK hB h24 dX7_upPoints_60 ?_
      refine lv_imul hx hb dX7_upPoints_61 ?_
      refine lv_iadd hx hb dX7_upPoints_62 ?_
      refine lv_istore (lv' := [(4, .int (x4 + (10 * v23))), (6, .ref (ad n16)), (0, .ref (ad x0)), (1, .int x1), (3, .int x3), (5, .int x5)]) hx hb dX7_upPoints_63 hl (by decide) rfl (fun ls hl => ?_)
      refine lv_iinc (v := (x5 + 1)) (lv' := [(5, .int (x5 + 1)), (4, .int (x4 + (10 * v23))), (6, .ref (ad n16)), (0, .ref (ad x0)), (1, .int x1), (3, .int x3)]) hx hb dX7_upPoints_65 hl (k := 5) rfl rfl (by decide) rfl (fun ls hl => ?_)
      refine lv_goto (tgt := 15) hx hb dX7_upPoints_68 (by decide) ?_
      exact hk15 σ13 x0 x1 x3 (x4 + (10 * v23)) (x5 + 1) _ _ _ hf hB hS (lv_sub hl [3, 4, 5, 1, 0] rfl)
set_option maxRecDepth 100000 in
set_option maxHeartbeats 4000000 in
theorem wX7_upPoints_15 (fu : Nat) (C : hs_Cx p s m args meth c X A yX7_upPoints cX7_upPoints 7 (some .int) wsX7_upPoints) (hem : ad hs_em = X.2.2.1.2.2.2)  {H : Heap} {locs : List Loc} {ls : Array Slot} (σ : hs_T) (x0 : Nat) (x1 : Int32) (x3 : Int32) (x4 : Int32) (x5 : Int32) (hf : fX7_upPoints_15 fu  σ x0 x1 x3 x4 x5 = some (r, τ)) (hB : hs_H X.1 X.2.1 ad A σ H) (hS : va_S A s.heap H locs) (hl : lv_has ls 7 [(0, .ref (ad x0)), (1, .int x1), (3, .int x3), (4, .int x4), (5, .int x5)]) : W p l e rmX7_upPoints s m args below meth c H locs 0 0 (MQ below (hs_Q0 hs_tvi X ad A r τ) args s 0 0 A) (F0 m 15 ls []) := by
  unfold fX7_upPoints_15 at hf
  exact hs_lp_i (P := fun a => ∀ (H : Heap) (locs : List Loc) (ls : Array Slot), hs_H X.1 X.2.1 ad A a.1 H → va_S A s.heap H locs → lv_has ls 7 [(0, .ref (ad a.2.1)), (1, .int a.2.2.1), (3, .int a.2.2.2.1), (4, .int a.2.2.2.2.1), (5, .int a.2.2.2.2.2)] → W p l e rmX7_upPoints s m args below meth c H locs 0 0 (MQ below (hs_Q0 hs_tvi X ad A r τ) args s 0 0 A) (F0 m 15 ls [])) (fun k a hk hf H locs ls hB hS hl => wX7_upPoints_15b fu C hem  _ (fun σ x0 x1 x3 x4 x5 H locs ls hf hB hS hl => hk (σ, x0, x1, x3, x4, x5) hf H locs ls hB hS hl) a.1 a.2.1 a.2.2.1 a.2.2.2.1 a.2.2.2.2.1 a.2.2.2.2.2 hf hB hS hl) fu (σ, x0, x1, x3, x4, x5) hf H locs ls hB hS hl
set_option maxRecDepth 100000 in
set_option maxHeartbeats 4000000 in
theorem wX7_upPoints_e (fu : Nat) (C : hs_Cx p s m args meth c X A yX7_upPoints cX7_upPoints 7 (some .int) wsX7_upPoints) (hem : ad hs_em = X.2.2.1.2.2.2) {H : Heap} {locs : List Loc} {ls : Array Slot} (σ : hs_T) (o : Nat) (a1 : Int32) (a2 : Int32) (hf : fX7_upPoints fu σ o a1 a2 = some (r, τ)) (hB : hs_H X.1 X.2.1 ad A σ H) (hS : va_S A s.heap H locs) (hl : lv_has ls 7 [(0, .ref (ad o)), (1, .int a1), (2, .int a2)]) : W p l e rmX7_upPoints s m args below meth c H locs 0 0 (MQ below (hs_Q0 hs_tvi X ad A r τ) args s 0 0 A) (F0 m 0 ls []) := by
  obtain ⟨hx, hb, hml, hr, hts, hown, hlk, hnm, hV, hA0, hA⟩ := id C
  have hown : s.vm.findClass RX7 = some m.cls := hown
  have hK := hV.1
  have hNw := hV.2.1
  unfold fX7_upPoints at hf
  refine lv_aload_n hx hb dX7_upPoints_0 rfl (lv_at hl 0 rfl) ?_
  obtain ⟨v2, h1, hf⟩ := hs_bi hf
  refine x_getI hx hb hts inX7_upPoints_X7 hown hK hB (by decide) rfl (k := 8) (by decide) rfl h1 (hts _ lkX7_upPoints_0) (fun _ h9 => h9) dX7_upPoints_1 ?_
  refine lv_iload_n hx hb dX7_upPoints_4 rfl (lv_at hl 2 rfl) ?_
  refine va_mmin hx hb (hml.trans hl.1.symm) hown (hts _ lkX7_upPoints_1) (hts _ lkX7_upPoints_2) (hts _ lkX7_upPoints_3) (hts _ lkX7_upPoints_4) (Nat.le_of_ble_eq_true rfl) (Nat.le_of_ble_eq_true rfl) (Nat.le_of_ble_eq_true rfl) (Nat.le_of_ble_eq_true rfl) dX7_upPoints_5 ?_
  refine lv_istore_n (lv' := [(3, .int (if a2 < v2 then a2 else v2)), (0, .ref (ad o)), (1, .int a1), (2, .int a2)]) hx hb dX7_upPoints_8 rfl hl (by decide) rfl (fun ls hl => ?_)
  refine lv_iconst (v := 0) hx hb dX7_upPoints_9 (by decide) ?_
  refine lv_istore (lv' := [(4, .int 0), (3, .int (if a2 < v2 then a2 else v2)), (0, .ref (ad o)), (1, .int a1), (2, .int a2)]) hx hb dX7_upPoints_10 hl (by decide) rfl (fun ls hl => ?_)
  refine lv_iconst (v := 0) hx hb dX7_upPoints_12 (by decide) ?_
  refine lv_istore (lv' := [(5, .int 0), (4, .int 0), (3, .int (if a2 < v2 then a2 else v2)), (0, .ref (ad o)), (1, .int a1), (2, .int a2)]) hx hb dX7_upPoints_13 hl (by decide) rfl (fun ls hl => ?_)
  exact wX7_upPoints_15 fu C hem σ o a1 (if a2 < v2 then a2 else v2) 0 0 hf hB hS (lv_sub hl [3, 4, 2, 1, 0] rfl)
end SX7_upPoints
set_option maxRecDepth 100000 in
theorem ctX7_upPoints (l : Launch) (fu : Nat) (σ : hs_T) (o : Nat) (a1 : Int32) (a2 : Int32) : hs_C0 hs_tvi l yX7_upPoints wsX7_upPoints rmX7_upPoints (fun ad => [.ref (ad o), .int a1, .int a2]) σ (fX7_upPoints fu σ o a1 a2) := by
  intro X ad sz r τ hf
  refine hs_enter (cc := cX7_upPoints) (maxL := 7) (ret := (some .int)) (by decide) rfl (Nat.le_of_ble_eq_true rfl) ?_
  intro p e s m below meth c ls C hl hem hB hS hsz
  exact wX7_upPoints_e fu C hem σ o a1 a2 hf hB hS hl
/-! ServiceGame.stolenPoints(II)I -/
abbrev rmX7_stolenPoints : Room := { frames := 3, cells := 0, slots := 0, locals := 64 }
theorem inX7_stolenPoints_X0 : ∀ w ∈ wsX00, w ∈ wsX7_stolenPoints := fun _ h => List.mem_cons_of_mem _ (List.mem_append_left _ (List.mem_append_left _ (List.mem_append_right _ h)))
theorem inX7_stolenPoints_X7 : ∀ w ∈ wsX70, w ∈ wsX7_stolenPoints := fun _ h => List.mem_cons_of_mem _ (List.mem_append_left _ (List.mem_append_left _ (List.mem_append_left _ (List.mem_append_right _ h))))
theorem lkX7_stolenPoints_0 : Cond.fieldLink RX7 20 "ServiceGame" "log" "Ljava/util/ArrayList;" ∈ wsX7_stolenPoints := by decide +kernel
theorem lkX7_stolenPoints_1 : Cond.classLink RX7 191 "ServiceGame$HandIn" ∈ wsX7_stolenPoints := by decide +kernel
theorem lkX7_stolenPoints_2 : Cond.initialized RX5 ∈ wsX7_stolenPoints := by decide +kernel
theorem lkX7_stolenPoints_3 : Cond.instanceMethod yX5_isTaken ∈ wsX7_stolenPoints := by decide +kernel
theorem lkX7_stolenPoints_4 : Cond.selects RX5 yX5_isTaken yX5_isTaken ∈ wsX7_stolenPoints := by decide +kernel
theorem lkX7_stolenPoints_5 : Cond.instanceMethod yX5_takers ∈ wsX7_stolenPoints := by decide +kernel
theorem lkX7_stolenPoints_6 : Cond.selects RX5 yX5_takers yX5_takers ∈ wsX7_stolenPoints := by decide +kernel
def fX7_stolenPoints_5b (fu : Nat)  (k5 : hs_T → Nat → Int32 → Int32 → Int32 → Int32 → Option (Int32 × hs_T)) (σ : hs_T) (x0 : Nat) (x1 : Int32) (x2 : Int32) (x3 : Int32) (x4 : Int32) : Option (Int32 × hs_T) :=
 (hs_gN σ 9 x0 2).bind fun n2 =>
 (hs_ck σ 1 n2).bind fun _ =>
 hs_b2 (fJx4a65c_size_8abf5 fu σ n2) fun v6 σ4 =>
 if v6 ≤ x4 then
 (some (x3, σ4))
 else
 ((hs_gN σ4 9 x0 2).bind fun n9 =>
 (hs_ck σ4 1 n9).bind fun _ =>
 hs_b2 (fJx4a65c_get_915e3 fu σ4 n9 x4) fun r13 σ11 => hs_mt r13 none (fun n14 =>
 (hs_ck σ11 2 n14).bind fun _ =>
 (hs_gI σ11 2 n14 0).bind fun v17 =>
 if v17 = x1 then
 ((hs_gN σ11 2 n14 1).bind fun n20 =>
 (hs_gI σ11 2 n14 2).bind fun v22 =>
 (hs_ck σ11 7 n20).bind fun _ =>
 hs_b2 (fX5_isTaken fu σ11 n20 x1 v22 x2) fun v26 σ24 =>
 if v26 = 0 then
 (k5 σ24 x0 x1 x2 x3 (x4 + 1))
 else
 ((hs_gN σ24 2 n14 1).bind fun n29 =>
 (hs_gI σ24 2 n14 2).bind fun v31 =>
 (hs_ck σ24 7 n29).bind fun _ =>
 hs_b2 (fX5_takers fu σ24 n29 v31 x2) fun v35 σ33 =>
 hs_b2 (fX7_share fu σ33 v35) fun v38 σ37 =>
 k5 σ37 x0 x1 x2 (x3 + v38) (x4 + 1)))
 else
 (k5 σ11 x0 x1 x2 x3 (x4 + 1))))
def fX7_stolenPoints_5 (fu : Nat)  (σ : hs_T) (x0 : Nat) (x1 : Int32) (x2 : Int32) (x3 : Int32) (x4 : Int32) : Option (Int32 × hs_T) :=
   hs_lp (fun (k : hs_T × Nat × Int32 × Int32 × Int32 × Int32 → Option (Int32 × hs_T)) (a : hs_T × Nat × Int32 × Int32 × Int32 × Int32) => fX7_stolenPoints_5b fu  (fun σ x0 x1 x2 x3 x4 => k (σ, x0, x1, x2, x3, x4)) a.1 a.2.1 a.2.2.1 a.2.2.2.1 a.2.2.2.2.1 a.2.2.2.2.2) fu (σ, x0, x1, x2, x3, x4)
def fX7_stolenPoints (fu : Nat) (σ : hs_T) (o : Nat) (a1 : Int32) (a2 : Int32) : Option (Int32 × hs_T) :=
 fX7_stolenPoints_5 fu σ o a1 a2 0 0
section SX7_stolenPoints
variable {p : Program} {l : Launch} {e : Env} {s : State} {m : MethodId} {args : Array Value} {below : List Frame} {meth : Method} {c : Code} {X : hs_X} {ad : Nat → Nat} {A : Nat → Prop} {r : Int32} {τ : hs_T}
set_option maxRecDepth 100000 in
set_option maxHeartbeats 4000000 in
theorem wX7_stolenPoints_5b (fu : Nat) (C : hs_Cx p s m args meth c X A yX7_stolenPoints cX7_stolenPoints 6 (some .int) wsX7_stolenPoints) (hem : ad hs_em = X.2.2.1.2.2.2)  (k5 : hs_T → Nat → Int32 → Int32 → Int32 → Int32 → Option (Int32 × hs_T)) (hk5 : ∀ (σ : hs_T) (x0 : Nat) (x1 : Int32) (x2 : Int32) (x3 : Int32) (x4 : Int32) (H : Heap) (locs : List Loc) (ls : Array Slot), k5 σ x0 x1 x2 x3 x4 = some (r, τ) → hs_H X.1 X.2.1 ad A σ H → va_S A s.heap H locs → lv_has ls 6 [(0, .ref (ad x0)), (1, .int x1), (2, .int x2), (3, .int x3), (4, .int x4)] → W p l e rmX7_stolenPoints s m args below meth c H locs 0 0 (MQ below (hs_Q0 hs_tvi X ad A r τ) args s 0 0 A) (F0 m 5 ls [])) {H : Heap} {locs : List Loc} {ls : Array Slot} (σ : hs_T) (x0 : Nat) (x1 : Int32) (x2 : Int32) (x3 : Int32) (x4 : Int32) (hf : fX7_stolenPoints_5b fu  k5 σ x0 x1 x2 x3 x4 = some (r, τ)) (hB : hs_H X.1 X.2.1 ad A σ H) (hS : va_S A s.heap H locs) (hl : lv_has ls 6 [(0, .ref (ad x0)), (1, .int x1), (2, .int x2), (3, .int x3), (4, .int x4)]) : W p l e rmX7_stolenPoints s m args below meth c H locs 0 0 (MQ below (hs_Q0 hs_tvi X ad A r τ) args s 0 0 A) (F0 m 5 ls []) := by
  obtain ⟨hx, hb, hml, hr, hts, hown, hlk, hnm, hV, hA0, hA⟩ := id C
  have hown : s.vm.findClass RX7 = some m.cls := hown
  have hK := hV.1
  have hNw := hV.2.1
  unfold fX7_stolenPoints_5b at hf
  refine lv_iload hx hb dX7_stolenPoints_5 (lv_at hl 4 rfl) ?_
  refine lv_aload_n hx hb dX7_stolenPoints_7 rfl (lv_at hl 0 rfl) ?_
  obtain ⟨n2, h1, hf⟩ := hs_bi hf
  refine x_getN hx hb hts inX7_stolenPoints_X7 hown hK hB (by decide) rfl (k := 2) (by decide) rfl h1 (hts _ lkX7_stolenPoints_0) (fun _ h9 => h9) dX7_stolenPoints_8 ?_
  obtain ⟨_, h5, hf⟩ := hs_bi hf
  obtain ⟨v6, σ4, h3, hf⟩ := hs_b2i hf
  refine hs_call0 (va_runV (As := []) (rest := [.int x4]) ⟨hx, hb, hml, hown, hts⟩ (ctJx4a65c_size_8abf5 l fu σ n2 X ad H.size _ _ h3) (cwV 0 hts gX7_stolenPoints_Jx4a65c_size_8abf5 rfl rfl rfl (by decide +kernel) ⟨Nat.le_of_ble_eq_true rfl, Nat.le_of_ble_eq_true rfl⟩) (hs_preV (hs_recv hK hB (hs_ck_i h5) (by decide) rfl) hV hB hS hA0 hA hem) rfl rfl hl.1 rfl (lv_room (Nat.le_of_ble_eq_true rfl)) dX7_stolenPoints_11 ⟨Nat.le_of_ble_eq_true rfl, Nat.le_of_ble_eq_true rfl⟩) hB hS hA rfl (fun H locs hB hS => ?_)
  refine lv_icmp_ge (tgt := 84) hx hb dX7_stolenPoints_14 (by decide) (fun h7 => ?_) (fun h7 => ?_)
  · have hf := hs_tt h7 hf
    refine lv_iload_n hx hb dX7_stolenPoints_84 rfl (lv_at hl 3 rfl) ?_
    obtain ⟨rfl, rfl⟩ := hs_ri hf
    exact hs_iret hx hb hr hlk hB hS dX7_stolenPoints_85
  · have hf := hs_ff h7 hf
    refine lv_aload_n hx hb dX7_stolenPoints_17 rfl (lv_at hl 0 rfl) ?_
    obtain ⟨n9, h8, hf⟩ := hs_bi hf
    refine x_getN hx hb hts inX7_stolenPoints_X7 hown hK hB (by decide) rfl (k := 2) (by decide) rfl h8 (hts _ lkX7_stolenPoints_0) (fun _ h9 => h9) dX7_stolenPoints_18 ?_
    refine lv_iload hx hb dX7_stolenPoints_21 (lv_at hl 4 rfl) ?_
    obtain ⟨_, h12, hf⟩ := hs_bi hf
    obtain ⟨r13, σ11, h10, hf⟩ := hs_b2i hf
    obtain ⟨n14, hf, rfl⟩ := hs_mx hf
    refine hs_call0 (va_runV (As := [.int x4]) (rest := []) ⟨hx, hb, hml, hown, hts⟩ (ctJx4a65c_get_915e3 l fu σ4 n9 x4 X ad H.size _ _ h10) (cwV 1 hts gX7_stolenPoints_Jx4a65c_get_915e3 rfl rfl rfl (by decide +kernel) ⟨Nat.le_of_ble_eq_true rfl, Nat.le_of_ble_eq_true rfl⟩) (hs_preV (hs_recv hK hB (hs_ck_i h12) (by decide) rfl) hV hB hS hA0 hA hem) rfl rfl hl.1 rfl (lv_room (Nat.le_of_ble_eq_true rfl)) dX7_stolenPoints_23 ⟨Nat.le_of_ble_eq_true rfl, Nat.le_of_ble_eq_true rfl⟩) hB hS hA rfl (fun H locs hB hS => ?_)
    obtain ⟨_, h15, hf⟩ := hs_bi hf
    refine x_cast hx hb hown (hts _ lkX7_stolenPoints_1) hK hB (hs_ck_i h15) (by decide) rfl dX7_stolenPoints_26 ?_
    refine lv_astore (lv' := [(5, .ref (ad n14)), (0, .ref (ad x0)), (1, .int x1), (2, .int x2), (3, .int x3), (4, .int x4)]) hx hb dX7_stolenPoints_29 hl (by decide) rfl (fun ls hl => ?_)
    refine lv_aload hx hb dX7_stolenPoints_31 (lv_at hl 0 rfl) ?_
    obtain ⟨v17, h16, hf⟩ := hs_bi hf
    refine x_getIN hx hb hts inX7_stolenPoints_X0 hown hK hB (by decide) rfl (k := 0) (by decide) rfl h16 (hNw (.fieldLinkNest "ServiceGame" 261 "ServiceGame$HandIn" "by" "I" "ServiceGame") (by decide +kernel)) (fun _ h9 => h9) dX7_stolenPoints_33 ?_
    refine lv_iload_n hx hb dX7_stolenPoints_36 rfl (lv_at hl 2 rfl) ?_
    refine lv_icmp_ne (tgt := 78) hx hb dX7_stolenPoints_37 (by decide) (fun h18 => ?_) (fun h18 => ?_)
    · have hf := hs_ff h18 hf
      refine lv_iinc (v := (x4 + 1)) (lv' := [(4, .int (x4 + 1)), (5, .ref (ad n14)), (0, .ref (ad x0)), (1, .int x1), (2, .int x2), (3, .int x3)]) hx hb dX7_stolenPoints_78 hl (k := 5) rfl rfl (by decide) rfl (fun ls hl => ?_)
      refine lv_goto (tgt := 5) hx hb dX7_stolenPoints_81 (by decide) ?_
      exact hk5 σ11 x0 x1 x2 x3 (x4 + 1) _ _ _ hf hB hS (lv_sub hl [2, 3, 4, 5, 0] rfl)
    · have hf := hs_tt h18 hf
      refine lv_aload hx hb dX7_stolenPoints_40 (lv_at hl 0 rfl) ?_
      obtain ⟨n20, h19, hf⟩ := hs_bi hf
      refine x_getNN hx hb hts inX7_stolenPoints_X0 hown hK hB (by decide) rfl (k := 1) (by decide) rfl h19 (hNw (.fieldLinkNest "ServiceGame" 264 "ServiceGame$HandIn" "service" "LServiceGame$Service;" "ServiceGame") (by decide +kernel)) (fun _ h9 => h9) dX7_stolenPoints_42 ?_
      refine lv_iload_n hx hb dX7_stolenPoints_45 rfl (lv_at hl 2 rfl) ?_
      refine lv_aload hx hb dX7_stolenPoints_46 (lv_at hl 0 rfl) ?_
      obtain ⟨v22, h21, hf⟩ := hs_bi hf
      refine x_getIN hx hb hts inX7_stolenPoints_X0 hown hK hB (by decide) rfl (k := 2) (by decide) rfl h21 (hNw (.fieldLinkNest "ServiceGame" 268 "ServiceGame$HandIn" "put" "I" "ServiceGame") (by decide +kernel)) (fun _ h9 => h9) dX7_stolenPoints_48 ?_
      refine lv_iload_n hx hb dX7_stolenPoints_51 rfl (lv_at hl 3 rfl) ?_
      obtain ⟨_, h25, hf⟩ := hs_bi hf
      obtain ⟨v26, σ24, h23, hf⟩ := hs_b2i hf
      refine hs_call0 (va_runVN (As := [.int x1, .int v22, .int x2]) (rest := []) ⟨hx, hb, hml, hown, hts⟩ (ctX5_isTaken l fu σ11 n20 x1 v22 x2 X ad H.size _ _ h23) ⟨va_cnB 3 hts gX7_stolenPoints_X5_isTaken_n254 rfl rfl rfl (hNw (.methodLinkNest "ServiceGame" 254 yX5_isTaken "ServiceGame") (by decide +kernel)) (hts _ lkX7_stolenPoints_2) (by decide +kernel) ⟨Nat.le_of_ble_eq_true rfl, Nat.le_of_ble_eq_true rfl⟩, (hts _ lkX7_stolenPoints_3), (hts _ lkX7_stolenPoints_4)⟩ (hs_preV (hs_recv hK hB (hs_ck_i h25) (by decide) rfl) hV hB hS hA0 hA hem) rfl rfl hl.1 rfl (lv_room (Nat.le_of_ble_eq_true rfl)) dX7_stolenPoints_52 ⟨Nat.le_of_ble_eq_true rfl, Nat.le_of_ble_eq_true rfl⟩) hB hS hA rfl (fun H locs hB hS => ?_)
      refine lv_if_eq (tgt := 78) hx hb dX7_stolenPoints_55 (by decide) (fun h27 => ?_) (fun h27 => ?_)
      · have hf := hs_tt h27 hf
        refine lv_iinc (v := (x4 + 1)) (lv' := [(4, .int (x4 + 1)), (5, .ref (ad n14)), (0, .ref (ad x0)), (1, .int x1), (2, .int x2), (3, .int x3)]) hx hb dX7_stolenPoints_78 hl (k := 5) rfl rfl (by decide) rfl (fun ls hl => ?_)
        refine lv_goto (tgt := 5) hx hb dX7_stolenPoints_81 (by decide) ?_
        exact hk5 σ24 x0 x1 x2 x3 (x4 + 1) _ _ _ hf hB hS (lv_sub hl [2, 3, 4, 5, 0] rfl)
      · have hf := hs_ff h27 hf
        refine lv_iload_n hx hb dX7_stolenPoints_58 rfl (lv_at hl 4 rfl) ?_
        refine lv_aload hx hb dX7_stolenPoints_59 (lv_at hl 0 rfl) ?_
        obtain ⟨n29, h28, hf⟩ := hs_bi hf
        refine x_getNN hx hb hts inX7_stolenPoints_X0 hown hK hB (by decide) rfl (k := 1) (by decide) rfl h28 (hNw (.fieldLinkNest "ServiceGame" 264 "ServiceGame$HandIn" "service" "LServiceGame$Service;" "ServiceGame") (by decide +kernel)) (fun _ h9 => h9) dX7_stolenPoints_61 ?_
        refine lv_aload hx hb dX7_stolenPoints_64 (lv_at hl 0 rfl) ?_
        obtain ⟨v31, h30, hf⟩ := hs_bi hf
        refine x_getIN hx hb hts inX7_stolenPoints_X0 hown hK hB (by decide) rfl (k := 2) (by decide) rfl h30 (hNw (.fieldLinkNest "ServiceGame" 268 "ServiceGame$HandIn" "put" "I" "ServiceGame") (by decide +kernel)) (fun _ h9 => h9) dX7_stolenPoints_66 ?_
        refine lv_iload_n hx hb dX7_stolenPoints_69 rfl (lv_at hl 3 rfl) ?_
        obtain ⟨_, h34, hf⟩ := hs_bi hf
        obtain ⟨v35, σ33, h32, hf⟩ := hs_b2i hf
        refine hs_call0 (va_runVN (As := [.int v31, .int x2]) (rest := [.int x3]) ⟨hx, hb, hml, hown, hts⟩ (ctX5_takers l fu σ24 n29 v31 x2 X ad H.size _ _ h32) ⟨va_cnB 2 hts gX7_stolenPoints_X5_takers_n271 rfl rfl rfl (hNw (.methodLinkNest "ServiceGame" 271 yX5_takers "ServiceGame") (by decide +kernel)) (hts _ lkX7_stolenPoints_2) (by decide +kernel) ⟨Nat.le_of_ble_eq_true rfl, Nat.le_of_ble_eq_true rfl⟩, (hts _ lkX7_stolenPoints_5), (hts _ lkX7_stolenPoints_6)⟩ (hs_preV (hs_recv hK hB (hs_ck_i h34) (by decide) rfl) hV hB hS hA0 hA hem) rfl rfl hl.1 rfl (lv_room (Nat.le_of_ble_eq_true rfl)) dX7_stolenPoints_70 ⟨Nat.le_of_ble_eq_true rfl, Nat.le_of_ble_eq_true rfl⟩) hB hS hA rfl (fun H locs hB hS => ?_)
        obtain ⟨v38, σ37, h36, hf⟩ := hs_b2i hf
        refine hs_call0 (va_runS (As := [.int v35]) (rest := [.int x3]) ⟨hx, hb, hml, hown, hts⟩ (ctX7_share l fu σ33 v35 X ad H.size _ _ h36) (va_cwS 1 hts gX7_stolenPoints_X7_share rfl rfl rfl (by decide +kernel) ⟨Nat.le_of_ble_eq_true rfl, Nat.le_of_ble_eq_true rfl⟩) (hs_pre hV hB hS hA0 hA hem) rfl rfl hl.1 rfl (lv_room (Nat.le_of_ble_eq_true rfl)) dX7_stolenPoints_73 ⟨Nat.le_of_ble_eq_true rfl, Nat.le_of_ble_eq_true rfl⟩) hB hS hA rfl (fun H locs hB hS => ?_)
        refine lv_iadd hx hb dX7_stolenPoints_76 ?_
        refine lv_istore_n (lv' := [(3, .int (x3 + v38)), (5, .ref (ad n14)), (0, .ref (ad x0)), (1, .int x1), (2, .int x2), (4, .int x4)]) hx hb dX7_stolenPoints_77 rfl hl (by decide) rfl (fun ls hl => ?_)
        refine lv_iinc (v := (x4 + 1)) (lv' := [(4, .int (x4 + 1)), (3, .int (x3 + v38)), (5, .ref (ad n14)), (0, .ref (ad x0)), (1, .int x1), (2, .int x2)]) hx hb dX7_stolenPoints_78 hl (k := 5) rfl rfl (by decide) rfl (fun ls hl => ?_)
        refine lv_goto (tgt := 5) hx hb dX7_stolenPoints_81 (by decide) ?_
        exact hk5 σ37 x0 x1 x2 (x3 + v38) (x4 + 1) _ _ _ hf hB hS (lv_sub hl [3, 4, 5, 1, 0] rfl)
set_option maxRecDepth 100000 in
set_option maxHeartbeats 4000000 in
theorem wX7_stolenPoints_5 (fu : Nat) (C : hs_Cx p s m args meth c X A yX7_stolenPoints cX7_stolenPoints 6 (some .int) wsX7_stolenPoints) (hem : ad hs_em = X.2.2.1.2.2.2)  {H : Heap} {locs : List Loc} {ls : Array Slot} (σ : hs_T) (x0 : Nat) (x1 : Int32) (x2 : Int32) (x3 : Int32) (x4 : Int32) (hf : fX7_stolenPoints_5 fu  σ x0 x1 x2 x3 x4 = some (r, τ)) (hB : hs_H X.1 X.2.1 ad A σ H) (hS : va_S A s.heap H locs) (hl : lv_has ls 6 [(0, .ref (ad x0)), (1, .int x1), (2, .int x2), (3, .int x3), (4, .int x4)]) : W p l e rmX7_stolenPoints s m args below meth c H locs 0 0 (MQ below (hs_Q0 hs_tvi X ad A r τ) args s 0 0 A) (F0 m 5 ls []) := by
  unfold fX7_stolenPoints_5 at hf
  exact hs_lp_i (P := fun a => ∀ (H : Heap) (locs : List Loc) (ls : Array Slot), hs_H X.1 X.2.1 ad A a.1 H → va_S A s.heap H locs → lv_has ls 6 [(0, .ref (ad a.2.1)), (1, .int a.2.2.1), (2, .int a.2.2.2.1), (3, .int a.2.2.2.2.1), (4, .int a.2.2.2.2.2)] → W p l e rmX7_stolenPoints s m args below meth c H locs 0 0 (MQ below (hs_Q0 hs_tvi X ad A r τ) args s 0 0 A) (F0 m 5 ls [])) (fun k a hk hf H locs ls hB hS hl => wX7_stolenPoints_5b fu C hem  _ (fun σ x0 x1 x2 x3 x4 H locs ls hf hB hS hl => hk (σ, x0, x1, x2, x3, x4) hf H locs ls hB hS hl) a.1 a.2.1 a.2.2.1 a.2.2.2.1 a.2.2.2.2.1 a.2.2.2.2.2 hf hB hS hl) fu (σ, x0, x1, x2, x3, x4) hf H locs ls hB hS hl
set_option maxRecDepth 100000 in
set_option maxHeartbeats 4000000 in
theorem wX7_stolenPoints_e (fu : Nat) (C : hs_Cx p s m args meth c X A yX7_stolenPoints cX7_stolenPoints 6 (some .int) wsX7_stolenPoints) (hem : ad hs_em = X.2.2.1.2.2.2) {H : Heap} {locs : List Loc} {ls : Array Slot} (σ : hs_T) (o : Nat) (a1 : Int32) (a2 : Int32) (hf : fX7_stolenPoints fu σ o a1 a2 = some (r, τ)) (hB : hs_H X.1 X.2.1 ad A σ H) (hS : va_S A s.heap H locs) (hl : lv_has ls 6 [(0, .ref (ad o)), (1, .int a1), (2, .int a2)]) : W p l e rmX7_stolenPoints s m args below meth c H locs 0 0 (MQ below (hs_Q0 hs_tvi X ad A r τ) args s 0 0 A) (F0 m 0 ls []) := by
  obtain ⟨hx, hb, hml, hr, hts, hown, hlk, hnm, hV, hA0, hA⟩ := id C
  have hown : s.vm.findClass RX7 = some m.cls := hown
  have hK := hV.1
  have hNw := hV.2.1
  unfold fX7_stolenPoints at hf
  refine lv_iconst (v := 0) hx hb dX7_stolenPoints_0 (by decide) ?_
  refine lv_istore_n (lv' := [(3, .int 0), (0, .ref (ad o)), (1, .int a1), (2, .int a2)]) hx hb dX7_stolenPoints_1 rfl hl (by decide) rfl (fun ls hl => ?_)
  refine lv_iconst (v := 0) hx hb dX7_stolenPoints_2 (by decide) ?_
  refine lv_istore (lv' := [(4, .int 0), (3, .int 0), (0, .ref (ad o)), (1, .int a1), (2, .int a2)]) hx hb dX7_stolenPoints_3 hl (by decide) rfl (fun ls hl => ?_)
  exact wX7_stolenPoints_5 fu C hem σ o a1 a2 0 0 hf hB hS (lv_sub hl [2, 3, 4, 1, 0] rfl)
end SX7_stolenPoints
set_option maxRecDepth 100000 in
theorem ctX7_stolenPoints (l : Launch) (fu : Nat) (σ : hs_T) (o : Nat) (a1 : Int32) (a2 : Int32) : hs_C0 hs_tvi l yX7_stolenPoints wsX7_stolenPoints rmX7_stolenPoints (fun ad => [.ref (ad o), .int a1, .int a2]) σ (fX7_stolenPoints fu σ o a1 a2) := by
  intro X ad sz r τ hf
  refine hs_enter (cc := cX7_stolenPoints) (maxL := 6) (ret := (some .int)) (by decide) rfl (Nat.le_of_ble_eq_true rfl) ?_
  intro p e s m below meth c ls C hl hem hB hS hsz
  exact wX7_stolenPoints_e fu C hem σ o a1 a2 hf hB hS hl
/-! ServiceGame.takenOff(II)I -/
abbrev rmX7_takenOff : Room := { frames := 3, cells := 0, slots := 0, locals := 64 }
theorem inX7_takenOff_X0 : ∀ w ∈ wsX00, w ∈ wsX7_takenOff := fun _ h => List.mem_cons_of_mem _ (List.mem_append_left _ (List.mem_append_left _ (List.mem_append_right _ h)))
theorem inX7_takenOff_X5 : ∀ w ∈ wsX50, w ∈ wsX7_takenOff := fun _ h => List.mem_cons_of_mem _ (List.mem_append_left _ (List.mem_append_right _ h))
theorem inX7_takenOff_X7 : ∀ w ∈ wsX70, w ∈ wsX7_takenOff := fun _ h => List.mem_cons_of_mem _ (List.mem_append_left _ (List.mem_append_left _ (List.mem_append_left _ (List.mem_append_right _ h))))
theorem lkX7_takenOff_0 : Cond.fieldLink RX7 20 "ServiceGame" "log" "Ljava/util/ArrayList;" ∈ wsX7_takenOff := by decide +kernel
theorem lkX7_takenOff_1 : Cond.classLink RX7 191 "ServiceGame$HandIn" ∈ wsX7_takenOff := by decide +kernel
theorem lkX7_takenOff_2 : Cond.initialized RX5 ∈ wsX7_takenOff := by decide +kernel
theorem lkX7_takenOff_3 : Cond.instanceMethod yX5_isTaken ∈ wsX7_takenOff := by decide +kernel
theorem lkX7_takenOff_4 : Cond.selects RX5 yX5_isTaken yX5_isTaken ∈ wsX7_takenOff := by decide +kernel
def fX7_takenOff_5b (fu : Nat)  (k5 : hs_T → Nat → Int32 → Int32 → Int32 → Int32 → Option (Int32 × hs_T)) (σ : hs_T) (x0 : Nat) (x1 : Int32) (x2 : Int32) (x3 : Int32) (x4 : Int32) : Option (Int32 × hs_T) :=
 (hs_gN σ 9 x0 2).bind fun n2 =>
 (hs_ck σ 1 n2).bind fun _ =>
 hs_b2 (fJx4a65c_size_8abf5 fu σ n2) fun v6 σ4 =>
 if v6 ≤ x4 then
 (some (x3, σ4))
 else
 ((hs_gN σ4 9 x0 2).bind fun n9 =>
 (hs_ck σ4 1 n9).bind fun _ =>
 hs_b2 (fJx4a65c_get_915e3 fu σ4 n9 x4) fun r13 σ11 => hs_mt r13 none (fun n14 =>
 (hs_ck σ11 2 n14).bind fun _ =>
 (hs_gN σ11 2 n14 1).bind fun n17 =>
 (hs_gI σ11 7 n17 0).bind fun v19 =>
 if v19 = x1 then
 ((hs_gN σ11 2 n14 1).bind fun n22 =>
 (hs_gI σ11 2 n14 0).bind fun v24 =>
 (hs_gI σ11 2 n14 2).bind fun v26 =>
 (hs_ck σ11 7 n22).bind fun _ =>
 hs_b2 (fX5_isTaken fu σ11 n22 v24 v26 x2) fun v30 σ28 =>
 if v30 = 0 then
 (k5 σ28 x0 x1 x2 x3 (x4 + 1))
 else
 (k5 σ28 x0 x1 x2 (x3 + 4) (x4 + 1)))
 else
 (k5 σ11 x0 x1 x2 x3 (x4 + 1))))
def fX7_takenOff_5 (fu : Nat)  (σ : hs_T) (x0 : Nat) (x1 : Int32) (x2 : Int32) (x3 : Int32) (x4 : Int32) : Option (Int32 × hs_T) :=
   hs_lp (fun (k : hs_T × Nat × Int32 × Int32 × Int32 × Int32 → Option (Int32 × hs_T)) (a : hs_T × Nat × Int32 × Int32 × Int32 × Int32) => fX7_takenOff_5b fu  (fun σ x0 x1 x2 x3 x4 => k (σ, x0, x1, x2, x3, x4)) a.1 a.2.1 a.2.2.1 a.2.2.2.1 a.2.2.2.2.1 a.2.2.2.2.2) fu (σ, x0, x1, x2, x3, x4)
def fX7_takenOff (fu : Nat) (σ : hs_T) (o : Nat) (a1 : Int32) (a2 : Int32) : Option (Int32 × hs_T) :=
 fX7_takenOff_5 fu σ o a1 a2 0 0
section SX7_takenOff
variable {p : Program} {l : Launch} {e : Env} {s : State} {m : MethodId} {args : Array Value} {below : List Frame} {meth : Method} {c : Code} {X : hs_X} {ad : Nat → Nat} {A : Nat → Prop} {r : Int32} {τ : hs_T}
set_option maxRecDepth 100000 in
set_option maxHeartbeats 4000000 in
theorem wX7_takenOff_5b (fu : Nat) (C : hs_Cx p s m args meth c X A yX7_takenOff cX7_takenOff 6 (some .int) wsX7_takenOff) (hem : ad hs_em = X.2.2.1.2.2.2)  (k5 : hs_T → Nat → Int32 → Int32 → Int32 → Int32 → Option (Int32 × hs_T)) (hk5 : ∀ (σ : hs_T) (x0 : Nat) (x1 : Int32) (x2 : Int32) (x3 : Int32) (x4 : Int32) (H : Heap) (locs : List Loc) (ls : Array Slot), k5 σ x0 x1 x2 x3 x4 = some (r, τ) → hs_H X.1 X.2.1 ad A σ H → va_S A s.heap H locs → lv_has ls 6 [(0, .ref (ad x0)), (1, .int x1), (2, .int x2), (3, .int x3), (4, .int x4)] → W p l e rmX7_takenOff s m args below meth c H locs 0 0 (MQ below (hs_Q0 hs_tvi X ad A r τ) args s 0 0 A) (F0 m 5 ls [])) {H : Heap} {locs : List Loc} {ls : Array Slot} (σ : hs_T) (x0 : Nat) (x1 : Int32) (x2 : Int32) (x3 : Int32) (x4 : Int32) (hf : fX7_takenOff_5b fu  k5 σ x0 x1 x2 x3 x4 = some (r, τ)) (hB : hs_H X.1 X.2.1 ad A σ H) (hS : va_S A s.heap H locs) (hl : lv_has ls 6 [(0, .ref (ad x0)), (1, .int x1), (2, .int x2), (3, .int x3), (4, .int x4)]) : W p l e rmX7_takenOff s m args below meth c H locs 0 0 (MQ below (hs_Q0 hs_tvi X ad A r τ) args s 0 0 A) (F0 m 5 ls []) := by
  obtain ⟨hx, hb, hml, hr, hts, hown, hlk, hnm, hV, hA0, hA⟩ := id C
  have hown : s.vm.findClass RX7 = some m.cls := hown
  have hK := hV.1
  have hNw := hV.2.1
  unfold fX7_takenOff_5b at hf
  refine lv_iload hx hb dX7_takenOff_5 (lv_at hl 4 rfl) ?_
  refine lv_aload_n hx hb dX7_takenOff_7 rfl (lv_at hl 0 rfl) ?_
  obtain ⟨n2, h1, hf⟩ := hs_bi hf
  refine x_getN hx hb hts inX7_takenOff_X7 hown hK hB (by decide) rfl (k := 2) (by decide) rfl h1 (hts _ lkX7_takenOff_0) (fun _ h9 => h9) dX7_takenOff_8 ?_
  obtain ⟨_, h5, hf⟩ := hs_bi hf
  obtain ⟨v6, σ4, h3, hf⟩ := hs_b2i hf
  refine hs_call0 (va_runV (As := []) (rest := [.int x4]) ⟨hx, hb, hml, hown, hts⟩ (ctJx4a65c_size_8abf5 l fu σ n2 X ad H.size _ _ h3) (cwV 0 hts gX7_takenOff_Jx4a65c_size_8abf5 rfl rfl rfl (by decide +kernel) ⟨Nat.le_of_ble_eq_true rfl, Nat.le_of_ble_eq_true rfl⟩) (hs_preV (hs_recv hK hB (hs_ck_i h5) (by decide) rfl) hV hB hS hA0 hA hem) rfl rfl hl.1 rfl (lv_room (Nat.le_of_ble_eq_true rfl)) dX7_takenOff_11 ⟨Nat.le_of_ble_eq_true rfl, Nat.le_of_ble_eq_true rfl⟩) hB hS hA rfl (fun H locs hB hS => ?_)
  refine lv_icmp_ge (tgt := 74) hx hb dX7_takenOff_14 (by decide) (fun h7 => ?_) (fun h7 => ?_)
  · have hf := hs_tt h7 hf
    refine lv_iload_n hx hb dX7_takenOff_74 rfl (lv_at hl 3 rfl) ?_
    obtain ⟨rfl, rfl⟩ := hs_ri hf
    exact hs_iret hx hb hr hlk hB hS dX7_takenOff_75
  · have hf := hs_ff h7 hf
    refine lv_aload_n hx hb dX7_takenOff_17 rfl (lv_at hl 0 rfl) ?_
    obtain ⟨n9, h8, hf⟩ := hs_bi hf
    refine x_getN hx hb hts inX7_takenOff_X7 hown hK hB (by decide) rfl (k := 2) (by decide) rfl h8 (hts _ lkX7_takenOff_0) (fun _ h9 => h9) dX7_takenOff_18 ?_
    refine lv_iload hx hb dX7_takenOff_21 (lv_at hl 4 rfl) ?_
    obtain ⟨_, h12, hf⟩ := hs_bi hf
    obtain ⟨r13, σ11, h10, hf⟩ := hs_b2i hf
    obtain ⟨n14, hf, rfl⟩ := hs_mx hf
    refine hs_call0 (va_runV (As := [.int x4]) (rest := []) ⟨hx, hb, hml, hown, hts⟩ (ctJx4a65c_get_915e3 l fu σ4 n9 x4 X ad H.size _ _ h10) (cwV 1 hts gX7_takenOff_Jx4a65c_get_915e3 rfl rfl rfl (by decide +kernel) ⟨Nat.le_of_ble_eq_true rfl, Nat.le_of_ble_eq_true rfl⟩) (hs_preV (hs_recv hK hB (hs_ck_i h12) (by decide) rfl) hV hB hS hA0 hA hem) rfl rfl hl.1 rfl (lv_room (Nat.le_of_ble_eq_true rfl)) dX7_takenOff_23 ⟨Nat.le_of_ble_eq_true rfl, Nat.le_of_ble_eq_true rfl⟩) hB hS hA rfl (fun H locs hB hS => ?_)
    obtain ⟨_, h15, hf⟩ := hs_bi hf
    refine x_cast hx hb hown (hts _ lkX7_takenOff_1) hK hB (hs_ck_i h15) (by decide) rfl dX7_takenOff_26 ?_
    refine lv_astore (lv' := [(5, .ref (ad n14)), (0, .ref (ad x0)), (1, .int x1), (2, .int x2), (3, .int x3), (4, .int x4)]) hx hb dX7_takenOff_29 hl (by decide) rfl (fun ls hl => ?_)
    refine lv_aload hx hb dX7_takenOff_31 (lv_at hl 0 rfl) ?_
    obtain ⟨n17, h16, hf⟩ := hs_bi hf
    refine x_getNN hx hb hts inX7_takenOff_X0 hown hK hB (by decide) rfl (k := 1) (by decide) rfl h16 (hNw (.fieldLinkNest "ServiceGame" 264 "ServiceGame$HandIn" "service" "LServiceGame$Service;" "ServiceGame") (by decide +kernel)) (fun _ h9 => h9) dX7_takenOff_33 ?_
    obtain ⟨v19, h18, hf⟩ := hs_bi hf
    refine x_getIN hx hb hts inX7_takenOff_X5 hown hK hB (by decide) rfl (k := 0) (by decide) rfl h18 (hNw (.fieldLinkNest "ServiceGame" 222 "ServiceGame$Service" "team" "I" "ServiceGame") (by decide +kernel)) (fun _ h9 => h9) dX7_takenOff_36 ?_
    refine lv_iload_n hx hb dX7_takenOff_39 rfl (lv_at hl 2 rfl) ?_
    refine lv_icmp_ne (tgt := 68) hx hb dX7_takenOff_40 (by decide) (fun h20 => ?_) (fun h20 => ?_)
    · have hf := hs_ff h20 hf
      refine lv_iinc (v := (x4 + 1)) (lv' := [(4, .int (x4 + 1)), (5, .ref (ad n14)), (0, .ref (ad x0)), (1, .int x1), (2, .int x2), (3, .int x3)]) hx hb dX7_takenOff_68 hl (k := 5) rfl rfl (by decide) rfl (fun ls hl => ?_)
      refine lv_goto (tgt := 5) hx hb dX7_takenOff_71 (by decide) ?_
      exact hk5 σ11 x0 x1 x2 x3 (x4 + 1) _ _ _ hf hB hS (lv_sub hl [2, 3, 4, 5, 0] rfl)
    · have hf := hs_tt h20 hf
      refine lv_aload hx hb dX7_takenOff_43 (lv_at hl 0 rfl) ?_
      obtain ⟨n22, h21, hf⟩ := hs_bi hf
      refine x_getNN hx hb hts inX7_takenOff_X0 hown hK hB (by decide) rfl (k := 1) (by decide) rfl h21 (hNw (.fieldLinkNest "ServiceGame" 264 "ServiceGame$HandIn" "service" "LServiceGame$Service;" "ServiceGame") (by decide +kernel)) (fun _ h9 => h9) dX7_takenOff_45 ?_
      refine lv_aload hx hb dX7_takenOff_48 (lv_at hl 0 rfl) ?_
      obtain ⟨v24, h23, hf⟩ := hs_bi hf
      refine x_getIN hx hb hts inX7_takenOff_X0 hown hK hB (by decide) rfl (k := 0) (by decide) rfl h23 (hNw (.fieldLinkNest "ServiceGame" 261 "ServiceGame$HandIn" "by" "I" "ServiceGame") (by decide +kernel)) (fun _ h9 => h9) dX7_takenOff_50 ?_
      refine lv_aload hx hb dX7_takenOff_53 (lv_at hl 0 rfl) ?_
      obtain ⟨v26, h25, hf⟩ := hs_bi hf
      refine x_getIN hx hb hts inX7_takenOff_X0 hown hK hB (by decide) rfl (k := 2) (by decide) rfl h25 (hNw (.fieldLinkNest "ServiceGame" 268 "ServiceGame$HandIn" "put" "I" "ServiceGame") (by decide +kernel)) (fun _ h9 => h9) dX7_takenOff_55 ?_
      refine lv_iload_n hx hb dX7_takenOff_58 rfl (lv_at hl 3 rfl) ?_
      obtain ⟨_, h29, hf⟩ := hs_bi hf
      obtain ⟨v30, σ28, h27, hf⟩ := hs_b2i hf
      refine hs_call0 (va_runVN (As := [.int v24, .int v26, .int x2]) (rest := []) ⟨hx, hb, hml, hown, hts⟩ (ctX5_isTaken l fu σ11 n22 v24 v26 x2 X ad H.size _ _ h27) ⟨va_cnB 3 hts gX7_takenOff_X5_isTaken_n254 rfl rfl rfl (hNw (.methodLinkNest "ServiceGame" 254 yX5_isTaken "ServiceGame") (by decide +kernel)) (hts _ lkX7_takenOff_2) (by decide +kernel) ⟨Nat.le_of_ble_eq_true rfl, Nat.le_of_ble_eq_true rfl⟩, (hts _ lkX7_takenOff_3), (hts _ lkX7_takenOff_4)⟩ (hs_preV (hs_recv hK hB (hs_ck_i h29) (by decide) rfl) hV hB hS hA0 hA hem) rfl rfl hl.1 rfl (lv_room (Nat.le_of_ble_eq_true rfl)) dX7_takenOff_59 ⟨Nat.le_of_ble_eq_true rfl, Nat.le_of_ble_eq_true rfl⟩) hB hS hA rfl (fun H locs hB hS => ?_)
      refine lv_if_eq (tgt := 68) hx hb dX7_takenOff_62 (by decide) (fun h31 => ?_) (fun h31 => ?_)
      · have hf := hs_tt h31 hf
        refine lv_iinc (v := (x4 + 1)) (lv' := [(4, .int (x4 + 1)), (5, .ref (ad n14)), (0, .ref (ad x0)), (1, .int x1), (2, .int x2), (3, .int x3)]) hx hb dX7_takenOff_68 hl (k := 5) rfl rfl (by decide) rfl (fun ls hl => ?_)
        refine lv_goto (tgt := 5) hx hb dX7_takenOff_71 (by decide) ?_
        exact hk5 σ28 x0 x1 x2 x3 (x4 + 1) _ _ _ hf hB hS (lv_sub hl [2, 3, 4, 5, 0] rfl)
      · have hf := hs_ff h31 hf
        refine lv_iinc (v := (x3 + 4)) (lv' := [(3, .int (x3 + 4)), (5, .ref (ad n14)), (0, .ref (ad x0)), (1, .int x1), (2, .int x2), (4, .int x4)]) hx hb dX7_takenOff_65 hl (k := 4) rfl rfl (by decide) rfl (fun ls hl => ?_)
        refine lv_iinc (v := (x4 + 1)) (lv' := [(4, .int (x4 + 1)), (3, .int (x3 + 4)), (5, .ref (ad n14)), (0, .ref (ad x0)), (1, .int x1), (2, .int x2)]) hx hb dX7_takenOff_68 hl (k := 5) rfl rfl (by decide) rfl (fun ls hl => ?_)
        refine lv_goto (tgt := 5) hx hb dX7_takenOff_71 (by decide) ?_
        exact hk5 σ28 x0 x1 x2 (x3 + 4) (x4 + 1) _ _ _ hf hB hS (lv_sub hl [3, 4, 5, 1, 0] rfl)
set_option maxRecDepth 100000 in
set_option maxHeartbeats 4000000 in
theorem wX7_takenOff_5 (fu : Nat) (C : hs_Cx p s m args meth c X A yX7_takenOff cX7_takenOff 6 (some .int) wsX7_takenOff) (hem : ad hs_em = X.2.2.1.2.2.2)  {H : Heap} {locs : List Loc} {ls : Array Slot} (σ : hs_T) (x0 : Nat) (x1 : Int32) (x2 : Int32) (x3 : Int32) (x4 : Int32) (hf : fX7_takenOff_5 fu  σ x0 x1 x2 x3 x4 = some (r, τ)) (hB : hs_H X.1 X.2.1 ad A σ H) (hS : va_S A s.heap H locs) (hl : lv_has ls 6 [(0, .ref (ad x0)), (1, .int x1), (2, .int x2), (3, .int x3), (4, .int x4)]) : W p l e rmX7_takenOff s m args below meth c H locs 0 0 (MQ below (hs_Q0 hs_tvi X ad A r τ) args s 0 0 A) (F0 m 5 ls []) := by
  unfold fX7_takenOff_5 at hf
  exact hs_lp_i (P := fun a => ∀ (H : Heap) (locs : List Loc) (ls : Array Slot), hs_H X.1 X.2.1 ad A a.1 H → va_S A s.heap H locs → lv_has ls 6 [(0, .ref (ad a.2.1)), (1, .int a.2.2.1), (2, .int a.2.2.2.1), (3, .int a.2.2.2.2.1), (4, .int a.2.2.2.2.2)] → W p l e rmX7_takenOff s m args below meth c H locs 0 0 (MQ below (hs_Q0 hs_tvi X ad A r τ) args s 0 0 A) (F0 m 5 ls [])) (fun k a hk hf H locs ls hB hS hl => wX7_takenOff_5b fu C hem  _ (fun σ x0 x1 x2 x3 x4 H locs ls hf hB hS hl => hk (σ, x0, x1, x2, x3, x4) hf H locs ls hB hS hl) a.1 a.2.1 a.2.2.1 a.2.2.2.1 a.2.2.2.2.1 a.2.2.2.2.2 hf hB hS hl) fu (σ, x0, x1, x2, x3, x4) hf H locs ls hB hS hl
set_option maxRecDepth 100000 in
set_option maxHeartbeats 4000000 in
theorem wX7_takenOff_e (fu : Nat) (C : hs_Cx p s m args meth c X A yX7_takenOff cX7_takenOff 6 (some .int) wsX7_takenOff) (hem : ad hs_em = X.2.2.1.2.2.2) {H : Heap} {locs : List Loc} {ls : Array Slot} (σ : hs_T) (o : Nat) (a1 : Int32) (a2 : Int32) (hf : fX7_takenOff fu σ o a1 a2 = some (r, τ)) (hB : hs_H X.1 X.2.1 ad A σ H) (hS : va_S A s.heap H locs) (hl : lv_has ls 6 [(0, .ref (ad o)), (1, .int a1), (2, .int a2)]) : W p l e rmX7_takenOff s m args below meth c H locs 0 0 (MQ below (hs_Q0 hs_tvi X ad A r τ) args s 0 0 A) (F0 m 0 ls []) := by
  obtain ⟨hx, hb, hml, hr, hts, hown, hlk, hnm, hV, hA0, hA⟩ := id C
  have hown : s.vm.findClass RX7 = some m.cls := hown
  have hK := hV.1
  have hNw := hV.2.1
  unfold fX7_takenOff at hf
  refine lv_iconst (v := 0) hx hb dX7_takenOff_0 (by decide) ?_
  refine lv_istore_n (lv' := [(3, .int 0), (0, .ref (ad o)), (1, .int a1), (2, .int a2)]) hx hb dX7_takenOff_1 rfl hl (by decide) rfl (fun ls hl => ?_)
  refine lv_iconst (v := 0) hx hb dX7_takenOff_2 (by decide) ?_
  refine lv_istore (lv' := [(4, .int 0), (3, .int 0), (0, .ref (ad o)), (1, .int a1), (2, .int a2)]) hx hb dX7_takenOff_3 hl (by decide) rfl (fun ls hl => ?_)
  exact wX7_takenOff_5 fu C hem σ o a1 a2 0 0 hf hB hS (lv_sub hl [2, 3, 4, 1, 0] rfl)
end SX7_takenOff
set_option maxRecDepth 100000 in
theorem ctX7_takenOff (l : Launch) (fu : Nat) (σ : hs_T) (o : Nat) (a1 : Int32) (a2 : Int32) : hs_C0 hs_tvi l yX7_takenOff wsX7_takenOff rmX7_takenOff (fun ad => [.ref (ad o), .int a1, .int a2]) σ (fX7_takenOff fu σ o a1 a2) := by
  intro X ad sz r τ hf
  refine hs_enter (cc := cX7_takenOff) (maxL := 6) (ret := (some .int)) (by decide) rfl (Nat.le_of_ble_eq_true rfl) ?_
  intro p e s m below meth c ls C hl hem hB hS hsz
  exact wX7_takenOff_e fu C hem σ o a1 a2 hf hB hS hl
/-! ServiceGame.pointsAhead(II)I -/
abbrev rmX7_pointsAhead : Room := { frames := 4, cells := 0, slots := 0, locals := 90 }
def fX7_pointsAhead (fu : Nat) (σ : hs_T) (o : Nat) (a1 : Int32) (a2 : Int32) : Option (Int32 × hs_T) :=
 (hs_ck σ 9 o).bind fun _ =>
 hs_b2 (fX7_upPoints fu σ o a1 a2) fun v4 σ2 =>
 (hs_ck σ2 9 o).bind fun _ =>
 hs_b2 (fX7_stolenPoints fu σ2 o a1 a2) fun v8 σ6 =>
 (hs_ck σ6 9 o).bind fun _ =>
 hs_b2 (fX7_takenOff fu σ6 o a1 a2) fun v12 σ10 =>
 some (((v4 + v8) - v12), σ10)
section SX7_pointsAhead
variable {p : Program} {l : Launch} {e : Env} {s : State} {m : MethodId} {args : Array Value} {below : List Frame} {meth : Method} {c : Code} {X : hs_X} {ad : Nat → Nat} {A : Nat → Prop} {r : Int32} {τ : hs_T}
set_option maxRecDepth 100000 in
set_option maxHeartbeats 4000000 in
theorem wX7_pointsAhead_e (fu : Nat) (C : hs_Cx p s m args meth c X A yX7_pointsAhead cX7_pointsAhead 3 (some .int) wsX7_pointsAhead) (hem : ad hs_em = X.2.2.1.2.2.2) {H : Heap} {locs : List Loc} {ls : Array Slot} (σ : hs_T) (o : Nat) (a1 : Int32) (a2 : Int32) (hf : fX7_pointsAhead fu σ o a1 a2 = some (r, τ)) (hB : hs_H X.1 X.2.1 ad A σ H) (hS : va_S A s.heap H locs) (hl : lv_has ls 3 [(0, .ref (ad o)), (1, .int a1), (2, .int a2)]) : W p l e rmX7_pointsAhead s m args below meth c H locs 0 0 (MQ below (hs_Q0 hs_tvi X ad A r τ) args s 0 0 A) (F0 m 0 ls []) := by
  obtain ⟨hx, hb, hml, hr, hts, hown, hlk, hnm, hV, hA0, hA⟩ := id C
  have hown : s.vm.findClass RX7 = some m.cls := hown
  have hK := hV.1
  have hNw := hV.2.1
  unfold fX7_pointsAhead at hf
  refine lv_aload_n hx hb dX7_pointsAhead_0 rfl (lv_at hl 0 rfl) ?_
  refine lv_iload_n hx hb dX7_pointsAhead_1 rfl (lv_at hl 1 rfl) ?_
  refine lv_iload_n hx hb dX7_pointsAhead_2 rfl (lv_at hl 2 rfl) ?_
  obtain ⟨_, h3, hf⟩ := hs_bi hf
  obtain ⟨v4, σ2, h1, hf⟩ := hs_b2i hf
  refine hs_call0 (va_runV (As := [.int a1, .int a2]) (rest := []) ⟨hx, hb, hml, hown, hts⟩ (ctX7_upPoints l fu σ o a1 a2 X ad H.size _ _ h1) (cwV 2 hts gX7_pointsAhead_X7_upPoints rfl rfl rfl (by decide +kernel) ⟨Nat.le_of_ble_eq_true rfl, Nat.le_of_ble_eq_true rfl⟩) (hs_preV (hs_recv hK hB (hs_ck_i h3) (by decide) rfl) hV hB hS hA0 hA hem) rfl rfl hl.1 rfl (lv_room (Nat.le_of_ble_eq_true rfl)) dX7_pointsAhead_3 ⟨Nat.le_of_ble_eq_true rfl, Nat.le_of_ble_eq_true rfl⟩) hB hS hA rfl (fun H locs hB hS => ?_)
  refine lv_aload_n hx hb dX7_pointsAhead_6 rfl (lv_at hl 0 rfl) ?_
  refine lv_iload_n hx hb dX7_pointsAhead_7 rfl (lv_at hl 1 rfl) ?_
  refine lv_iload_n hx hb dX7_pointsAhead_8 rfl (lv_at hl 2 rfl) ?_
  obtain ⟨_, h7, hf⟩ := hs_bi hf
  obtain ⟨v8, σ6, h5, hf⟩ := hs_b2i hf
  refine hs_call0 (va_runV (As := [.int a1, .int a2]) (rest := [.int v4]) ⟨hx, hb, hml, hown, hts⟩ (ctX7_stolenPoints l fu σ2 o a1 a2 X ad H.size _ _ h5) (cwV 2 hts gX7_pointsAhead_X7_stolenPoints rfl rfl rfl (by decide +kernel) ⟨Nat.le_of_ble_eq_true rfl, Nat.le_of_ble_eq_true rfl⟩) (hs_preV (hs_recv hK hB (hs_ck_i h7) (by decide) rfl) hV hB hS hA0 hA hem) rfl rfl hl.1 rfl (lv_room (Nat.le_of_ble_eq_true rfl)) dX7_pointsAhead_9 ⟨Nat.le_of_ble_eq_true rfl, Nat.le_of_ble_eq_true rfl⟩) hB hS hA rfl (fun H locs hB hS => ?_)
  refine lv_iadd hx hb dX7_pointsAhead_12 ?_
  refine lv_aload_n hx hb dX7_pointsAhead_13 rfl (lv_at hl 0 rfl) ?_
  refine lv_iload_n hx hb dX7_pointsAhead_14 rfl (lv_at hl 1 rfl) ?_
  refine lv_iload_n hx hb dX7_pointsAhead_15 rfl (lv_at hl 2 rfl) ?_
  obtain ⟨_, h11, hf⟩ := hs_bi hf
  obtain ⟨v12, σ10, h9, hf⟩ := hs_b2i hf
  refine hs_call0 (va_runV (As := [.int a1, .int a2]) (rest := [.int (v4 + v8)]) ⟨hx, hb, hml, hown, hts⟩ (ctX7_takenOff l fu σ6 o a1 a2 X ad H.size _ _ h9) (cwV 2 hts gX7_pointsAhead_X7_takenOff rfl rfl rfl (by decide +kernel) ⟨Nat.le_of_ble_eq_true rfl, Nat.le_of_ble_eq_true rfl⟩) (hs_preV (hs_recv hK hB (hs_ck_i h11) (by decide) rfl) hV hB hS hA0 hA hem) rfl rfl hl.1 rfl (lv_room (Nat.le_of_ble_eq_true rfl)) dX7_pointsAhead_16 ⟨Nat.le_of_ble_eq_true rfl, Nat.le_of_ble_eq_true rfl⟩) hB hS hA rfl (fun H locs hB hS => ?_)
  refine lv_isub hx hb dX7_pointsAhead_19 ?_
  obtain ⟨rfl, rfl⟩ := hs_ri hf
  exact hs_iret hx hb hr hlk hB hS dX7_pointsAhead_20
end SX7_pointsAhead
set_option maxRecDepth 100000 in
theorem ctX7_pointsAhead (l : Launch) (fu : Nat) (σ : hs_T) (o : Nat) (a1 : Int32) (a2 : Int32) : hs_C0 hs_tvi l yX7_pointsAhead wsX7_pointsAhead rmX7_pointsAhead (fun ad => [.ref (ad o), .int a1, .int a2]) σ (fX7_pointsAhead fu σ o a1 a2) := by
  intro X ad sz r τ hf
  refine hs_enter (cc := cX7_pointsAhead) (maxL := 3) (ret := (some .int)) (by decide) rfl (Nat.le_of_ble_eq_true rfl) ?_
  intro p e s m below meth c ls C hl hem hB hS hsz
  exact wX7_pointsAhead_e fu C hem σ o a1 a2 hf hB hS hl
/-! ServiceGame.handInsBy(I)I -/
abbrev rmX7_handInsBy : Room := { frames := 3, cells := 0, slots := 0, locals := 64 }
theorem inX7_handInsBy_X0 : ∀ w ∈ wsX00, w ∈ wsX7_handInsBy := fun _ h => List.mem_cons_of_mem _ (List.mem_append_left _ (List.mem_append_right _ h))
theorem inX7_handInsBy_X7 : ∀ w ∈ wsX70, w ∈ wsX7_handInsBy := fun _ h => List.mem_cons_of_mem _ (List.mem_append_left _ (List.mem_append_left _ (List.mem_append_right _ h)))
theorem lkX7_handInsBy_0 : Cond.fieldLink RX7 20 "ServiceGame" "log" "Ljava/util/ArrayList;" ∈ wsX7_handInsBy := by decide +kernel
theorem lkX7_handInsBy_1 : Cond.classLink RX7 191 "ServiceGame$HandIn" ∈ wsX7_handInsBy := by decide +kernel
def fX7_handInsBy_4b (fu : Nat)  (k4 : hs_T → Nat → Int32 → Int32 → Int32 → Option (Int32 × hs_T)) (σ : hs_T) (x0 : Nat) (x1 : Int32) (x2 : Int32) (x3 : Int32) : Option (Int32 × hs_T) :=
 (hs_gN σ 9 x0 2).bind fun n2 =>
 (hs_ck σ 1 n2).bind fun _ =>
 hs_b2 (fJx4a65c_size_8abf5 fu σ n2) fun v6 σ4 =>
 if v6 ≤ x3 then
 (some (x2, σ4))
 else
 ((hs_gN σ4 9 x0 2).bind fun n9 =>
 (hs_ck σ4 1 n9).bind fun _ =>
 hs_b2 (fJx4a65c_get_915e3 fu σ4 n9 x3) fun r13 σ11 => hs_mt r13 none (fun n14 =>
 (hs_ck σ11 2 n14).bind fun _ =>
 (hs_gI σ11 2 n14 0).bind fun v17 =>
 if v17 = x1 then
 (k4 σ11 x0 x1 (x2 + 1) (x3 + 1))
 else
 (k4 σ11 x0 x1 x2 (x3 + 1))))
def fX7_handInsBy_4 (fu : Nat)  (σ : hs_T) (x0 : Nat) (x1 : Int32) (x2 : Int32) (x3 : Int32) : Option (Int32 × hs_T) :=
   hs_lp (fun (k : hs_T × Nat × Int32 × Int32 × Int32 → Option (Int32 × hs_T)) (a : hs_T × Nat × Int32 × Int32 × Int32) => fX7_handInsBy_4b fu  (fun σ x0 x1 x2 x3 => k (σ, x0, x1, x2, x3)) a.1 a.2.1 a.2.2.1 a.2.2.2.1 a.2.2.2.2) fu (σ, x0, x1, x2, x3)
def fX7_handInsBy (fu : Nat) (σ : hs_T) (o : Nat) (a1 : Int32) : Option (Int32 × hs_T) :=
 fX7_handInsBy_4 fu σ o a1 0 0
section SX7_handInsBy
variable {p : Program} {l : Launch} {e : Env} {s : State} {m : MethodId} {args : Array Value} {below : List Frame} {meth : Method} {c : Code} {X : hs_X} {ad : Nat → Nat} {A : Nat → Prop} {r : Int32} {τ : hs_T}
set_option maxRecDepth 100000 in
set_option maxHeartbeats 4000000 in
theorem wX7_handInsBy_4b (fu : Nat) (C : hs_Cx p s m args meth c X A yX7_handInsBy cX7_handInsBy 4 (some .int) wsX7_handInsBy) (hem : ad hs_em = X.2.2.1.2.2.2)  (k4 : hs_T → Nat → Int32 → Int32 → Int32 → Option (Int32 × hs_T)) (hk4 : ∀ (σ : hs_T) (x0 : Nat) (x1 : Int32) (x2 : Int32) (x3 : Int32) (H : Heap) (locs : List Loc) (ls : Array Slot), k4 σ x0 x1 x2 x3 = some (r, τ) → hs_H X.1 X.2.1 ad A σ H → va_S A s.heap H locs → lv_has ls 4 [(0, .ref (ad x0)), (1, .int x1), (2, .int x2), (3, .int x3)] → W p l e rmX7_handInsBy s m args below meth c H locs 0 0 (MQ below (hs_Q0 hs_tvi X ad A r τ) args s 0 0 A) (F0 m 4 ls [])) {H : Heap} {locs : List Loc} {ls : Array Slot} (σ : hs_T) (x0 : Nat) (x1 : Int32) (x2 : Int32) (x3 : Int32) (hf : fX7_handInsBy_4b fu  k4 σ x0 x1 x2 x3 = some (r, τ)) (hB : hs_H X.1 X.2.1 ad A σ H) (hS : va_S A s.heap H locs) (hl : lv_has ls 4 [(0, .ref (ad x0)), (1, .int x1), (2, .int x2), (3, .int x3)]) : W p l e rmX7_handInsBy s m args below meth c H locs 0 0 (MQ below (hs_Q0 hs_tvi X ad A r τ) args s 0 0 A) (F0 m 4 ls []) := by
  obtain ⟨hx, hb, hml, hr, hts, hown, hlk, hnm, hV, hA0, hA⟩ := id C
  have hown : s.vm.findClass RX7 = some m.cls := hown
  have hK := hV.1
  have hNw := hV.2.1
  unfold fX7_handInsBy_4b at hf
  refine lv_iload_n hx hb dX7_handInsBy_4 rfl (lv_at hl 3 rfl) ?_
  refine lv_aload_n hx hb dX7_handInsBy_5 rfl (lv_at hl 0 rfl) ?_
  obtain ⟨n2, h1, hf⟩ := hs_bi hf
  refine x_getN hx hb hts inX7_handInsBy_X7 hown hK hB (by decide) rfl (k := 2) (by decide) rfl h1 (hts _ lkX7_handInsBy_0) (fun _ h9 => h9) dX7_handInsBy_6 ?_
  obtain ⟨_, h5, hf⟩ := hs_bi hf
  obtain ⟨v6, σ4, h3, hf⟩ := hs_b2i hf
  refine hs_call0 (va_runV (As := []) (rest := [.int x3]) ⟨hx, hb, hml, hown, hts⟩ (ctJx4a65c_size_8abf5 l fu σ n2 X ad H.size _ _ h3) (cwV 0 hts gX7_handInsBy_Jx4a65c_size_8abf5 rfl rfl rfl (by decide +kernel) ⟨Nat.le_of_ble_eq_true rfl, Nat.le_of_ble_eq_true rfl⟩) (hs_preV (hs_recv hK hB (hs_ck_i h5) (by decide) rfl) hV hB hS hA0 hA hem) rfl rfl hl.1 rfl (lv_room (Nat.le_of_ble_eq_true rfl)) dX7_handInsBy_9 ⟨Nat.le_of_ble_eq_true rfl, Nat.le_of_ble_eq_true rfl⟩) hB hS hA rfl (fun H locs hB hS => ?_)
  refine lv_icmp_ge (tgt := 42) hx hb dX7_handInsBy_12 (by decide) (fun h7 => ?_) (fun h7 => ?_)
  · have hf := hs_tt h7 hf
    refine lv_iload_n hx hb dX7_handInsBy_42 rfl (lv_at hl 2 rfl) ?_
    obtain ⟨rfl, rfl⟩ := hs_ri hf
    exact hs_iret hx hb hr hlk hB hS dX7_handInsBy_43
  · have hf := hs_ff h7 hf
    refine lv_aload_n hx hb dX7_handInsBy_15 rfl (lv_at hl 0 rfl) ?_
    obtain ⟨n9, h8, hf⟩ := hs_bi hf
    refine x_getN hx hb hts inX7_handInsBy_X7 hown hK hB (by decide) rfl (k := 2) (by decide) rfl h8 (hts _ lkX7_handInsBy_0) (fun _ h9 => h9) dX7_handInsBy_16 ?_
    refine lv_iload_n hx hb dX7_handInsBy_19 rfl (lv_at hl 3 rfl) ?_
    obtain ⟨_, h12, hf⟩ := hs_bi hf
    obtain ⟨r13, σ11, h10, hf⟩ := hs_b2i hf
    obtain ⟨n14, hf, rfl⟩ := hs_mx hf
    refine hs_call0 (va_runV (As := [.int x3]) (rest := []) ⟨hx, hb, hml, hown, hts⟩ (ctJx4a65c_get_915e3 l fu σ4 n9 x3 X ad H.size _ _ h10) (cwV 1 hts gX7_handInsBy_Jx4a65c_get_915e3 rfl rfl rfl (by decide +kernel) ⟨Nat.le_of_ble_eq_true rfl, Nat.le_of_ble_eq_true rfl⟩) (hs_preV (hs_recv hK hB (hs_ck_i h12) (by decide) rfl) hV hB hS hA0 hA hem) rfl rfl hl.1 rfl (lv_room (Nat.le_of_ble_eq_true rfl)) dX7_handInsBy_20 ⟨Nat.le_of_ble_eq_true rfl, Nat.le_of_ble_eq_true rfl⟩) hB hS hA rfl (fun H locs hB hS => ?_)
    obtain ⟨_, h15, hf⟩ := hs_bi hf
    refine x_cast hx hb hown (hts _ lkX7_handInsBy_1) hK hB (hs_ck_i h15) (by decide) rfl dX7_handInsBy_23 ?_
    obtain ⟨v17, h16, hf⟩ := hs_bi hf
    refine x_getIN hx hb hts inX7_handInsBy_X0 hown hK hB (by decide) rfl (k := 0) (by decide) rfl h16 (hNw (.fieldLinkNest "ServiceGame" 261 "ServiceGame$HandIn" "by" "I" "ServiceGame") (by decide +kernel)) (fun _ h9 => h9) dX7_handInsBy_26 ?_
    refine lv_iload_n hx hb dX7_handInsBy_29 rfl (lv_at hl 1 rfl) ?_
    refine lv_icmp_ne (tgt := 36) hx hb dX7_handInsBy_30 (by decide) (fun h18 => ?_) (fun h18 => ?_)
    · have hf := hs_ff h18 hf
      refine lv_iinc (v := (x3 + 1)) (lv' := [(3, .int (x3 + 1)), (0, .ref (ad x0)), (1, .int x1), (2, .int x2)]) hx hb dX7_handInsBy_36 hl (k := 3) rfl rfl (by decide) rfl (fun ls hl => ?_)
      refine lv_goto (tgt := 4) hx hb dX7_handInsBy_39 (by decide) ?_
      exact hk4 σ11 x0 x1 x2 (x3 + 1) _ _ _ hf hB hS (lv_sub hl [1, 2, 3, 0] rfl)
    · have hf := hs_tt h18 hf
      refine lv_iinc (v := (x2 + 1)) (lv' := [(2, .int (x2 + 1)), (0, .ref (ad x0)), (1, .int x1), (3, .int x3)]) hx hb dX7_handInsBy_33 hl (k := 2) rfl rfl (by decide) rfl (fun ls hl => ?_)
      refine lv_iinc (v := (x3 + 1)) (lv' := [(3, .int (x3 + 1)), (2, .int (x2 + 1)), (0, .ref (ad x0)), (1, .int x1)]) hx hb dX7_handInsBy_36 hl (k := 3) rfl rfl (by decide) rfl (fun ls hl => ?_)
      refine lv_goto (tgt := 4) hx hb dX7_handInsBy_39 (by decide) ?_
      exact hk4 σ11 x0 x1 (x2 + 1) (x3 + 1) _ _ _ hf hB hS (lv_sub hl [2, 3, 1, 0] rfl)
set_option maxRecDepth 100000 in
set_option maxHeartbeats 4000000 in
theorem wX7_handInsBy_4 (fu : Nat) (C : hs_Cx p s m args meth c X A yX7_handInsBy cX7_handInsBy 4 (some .int) wsX7_handInsBy) (hem : ad hs_em = X.2.2.1.2.2.2)  {H : Heap} {locs : List Loc} {ls : Array Slot} (σ : hs_T) (x0 : Nat) (x1 : Int32) (x2 : Int32) (x3 : Int32) (hf : fX7_handInsBy_4 fu  σ x0 x1 x2 x3 = some (r, τ)) (hB : hs_H X.1 X.2.1 ad A σ H) (hS : va_S A s.heap H locs) (hl : lv_has ls 4 [(0, .ref (ad x0)), (1, .int x1), (2, .int x2), (3, .int x3)]) : W p l e rmX7_handInsBy s m args below meth c H locs 0 0 (MQ below (hs_Q0 hs_tvi X ad A r τ) args s 0 0 A) (F0 m 4 ls []) := by
  unfold fX7_handInsBy_4 at hf
  exact hs_lp_i (P := fun a => ∀ (H : Heap) (locs : List Loc) (ls : Array Slot), hs_H X.1 X.2.1 ad A a.1 H → va_S A s.heap H locs → lv_has ls 4 [(0, .ref (ad a.2.1)), (1, .int a.2.2.1), (2, .int a.2.2.2.1), (3, .int a.2.2.2.2)] → W p l e rmX7_handInsBy s m args below meth c H locs 0 0 (MQ below (hs_Q0 hs_tvi X ad A r τ) args s 0 0 A) (F0 m 4 ls [])) (fun k a hk hf H locs ls hB hS hl => wX7_handInsBy_4b fu C hem  _ (fun σ x0 x1 x2 x3 H locs ls hf hB hS hl => hk (σ, x0, x1, x2, x3) hf H locs ls hB hS hl) a.1 a.2.1 a.2.2.1 a.2.2.2.1 a.2.2.2.2 hf hB hS hl) fu (σ, x0, x1, x2, x3) hf H locs ls hB hS hl
set_option maxRecDepth 100000 in
set_option maxHeartbeats 4000000 in
theorem wX7_handInsBy_e (fu : Nat) (C : hs_Cx p s m args meth c X A yX7_handInsBy cX7_handInsBy 4 (some .int) wsX7_handInsBy) (hem : ad hs_em = X.2.2.1.2.2.2) {H : Heap} {locs : List Loc} {ls : Array Slot} (σ : hs_T) (o : Nat) (a1 : Int32) (hf : fX7_handInsBy fu σ o a1 = some (r, τ)) (hB : hs_H X.1 X.2.1 ad A σ H) (hS : va_S A s.heap H locs) (hl : lv_has ls 4 [(0, .ref (ad o)), (1, .int a1)]) : W p l e rmX7_handInsBy s m args below meth c H locs 0 0 (MQ below (hs_Q0 hs_tvi X ad A r τ) args s 0 0 A) (F0 m 0 ls []) := by
  obtain ⟨hx, hb, hml, hr, hts, hown, hlk, hnm, hV, hA0, hA⟩ := id C
  have hown : s.vm.findClass RX7 = some m.cls := hown
  have hK := hV.1
  have hNw := hV.2.1
  unfold fX7_handInsBy at hf
  refine lv_iconst (v := 0) hx hb dX7_handInsBy_0 (by decide) ?_
  refine lv_istore_n (lv' := [(2, .int 0), (0, .ref (ad o)), (1, .int a1)]) hx hb dX7_handInsBy_1 rfl hl (by decide) rfl (fun ls hl => ?_)
  refine lv_iconst (v := 0) hx hb dX7_handInsBy_2 (by decide) ?_
  refine lv_istore_n (lv' := [(3, .int 0), (2, .int 0), (0, .ref (ad o)), (1, .int a1)]) hx hb dX7_handInsBy_3 rfl hl (by decide) rfl (fun ls hl => ?_)
  exact wX7_handInsBy_4 fu C hem σ o a1 0 0 hf hB hS (lv_sub hl [2, 3, 1, 0] rfl)
end SX7_handInsBy
set_option maxRecDepth 100000 in
theorem ctX7_handInsBy (l : Launch) (fu : Nat) (σ : hs_T) (o : Nat) (a1 : Int32) : hs_C0 hs_tvi l yX7_handInsBy wsX7_handInsBy rmX7_handInsBy (fun ad => [.ref (ad o), .int a1]) σ (fX7_handInsBy fu σ o a1) := by
  intro X ad sz r τ hf
  refine hs_enter (cc := cX7_handInsBy) (maxL := 4) (ret := (some .int)) (by decide) rfl (Nat.le_of_ble_eq_true rfl) ?_
  intro p e s m below meth c ls C hl hem hB hS hsz
  exact wX7_handInsBy_e fu C hem σ o a1 hf hB hS hl
/-! ServiceGame.points(II)I -/
abbrev rmX7_points : Room := { frames := 5, cells := 0, slots := 0, locals := 112 }
theorem lkX7_points_0 : Cond.constant RX7 196 (-1000000) ∈ wsX7_points := by decide +kernel
def fX7_points (fu : Nat) (σ : hs_T) (o : Nat) (a1 : Int32) (a2 : Int32) : Option (Int32 × hs_T) :=
 (hs_ck σ 9 o).bind fun _ =>
 hs_b2 (fX7_isTeam fu σ o a1) fun v4 σ2 =>
 if v4 = 0 then
 (some ((-1000000), σ2))
 else
 (if a2 = 0 then
 ((hs_ck σ2 9 o).bind fun _ =>
 hs_b2 (fX7_pointsAhead fu σ2 o a1 100) fun v10 σ8 =>
 some (v10, σ8))
 else
 if a2 = 1 then
 ((hs_ck σ2 9 o).bind fun _ =>
 hs_b2 (fX7_upPoints fu σ2 o a1 100) fun v15 σ13 =>
 some (v15, σ13))
 else
 if a2 = 2 then
 ((hs_ck σ2 9 o).bind fun _ =>
 hs_b2 (fX7_stolenPoints fu σ2 o a1 100) fun v20 σ18 =>
 some (v20, σ18))
 else
 if a2 = 3 then
 ((hs_ck σ2 9 o).bind fun _ =>
 hs_b2 (fX7_takenOff fu σ2 o a1 100) fun v25 σ23 =>
 some (v25, σ23))
 else
 if a2 = 4 then
 ((hs_ck σ2 9 o).bind fun _ =>
 hs_b2 (fX7_handInsBy fu σ2 o a1) fun v30 σ28 =>
 some (v30, σ28))
 else
 (some ((-1000000), σ2)))
section SX7_points
variable {p : Program} {l : Launch} {e : Env} {s : State} {m : MethodId} {args : Array Value} {below : List Frame} {meth : Method} {c : Code} {X : hs_X} {ad : Nat → Nat} {A : Nat → Prop} {r : Int32} {τ : hs_T}
set_option maxRecDepth 100000 in
set_option maxHeartbeats 4000000 in
theorem wX7_points_e (fu : Nat) (C : hs_Cx p s m args meth c X A yX7_points cX7_points 3 (some .int) wsX7_points) (hem : ad hs_em = X.2.2.1.2.2.2) {H : Heap} {locs : List Loc} {ls : Array Slot} (σ : hs_T) (o : Nat) (a1 : Int32) (a2 : Int32) (hf : fX7_points fu σ o a1 a2 = some (r, τ)) (hB : hs_H X.1 X.2.1 ad A σ H) (hS : va_S A s.heap H locs) (hl : lv_has ls 3 [(0, .ref (ad o)), (1, .int a1), (2, .int a2)]) : W p l e rmX7_points s m args below meth c H locs 0 0 (MQ below (hs_Q0 hs_tvi X ad A r τ) args s 0 0 A) (F0 m 0 ls []) := by
  obtain ⟨hx, hb, hml, hr, hts, hown, hlk, hnm, hV, hA0, hA⟩ := id C
  have hown : s.vm.findClass RX7 = some m.cls := hown
  have hK := hV.1
  have hNw := hV.2.1
  unfold fX7_points at hf
  refine lv_aload_n hx hb dX7_points_0 rfl (lv_at hl 0 rfl) ?_
  refine lv_iload_n hx hb dX7_points_1 rfl (lv_at hl 1 rfl) ?_
  obtain ⟨_, h3, hf⟩ := hs_bi hf
  obtain ⟨v4, σ2, h1, hf⟩ := hs_b2i hf
  refine hs_call0 (va_runV (As := [.int a1]) (rest := []) ⟨hx, hb, hml, hown, hts⟩ (ctX7_isTeam l fu σ o a1 X ad H.size _ _ h1) (cwV 1 hts gX7_points_X7_isTeam rfl rfl rfl (by decide +kernel) ⟨Nat.le_of_ble_eq_true rfl, Nat.le_of_ble_eq_true rfl⟩) (hs_preV (hs_recv hK hB (hs_ck_i h3) (by decide) rfl) hV hB hS hA0 hA hem) rfl rfl hl.1 rfl (lv_room (Nat.le_of_ble_eq_true rfl)) dX7_points_2 ⟨Nat.le_of_ble_eq_true rfl, Nat.le_of_ble_eq_true rfl⟩) hB hS hA rfl (fun H locs hB hS => ?_)
  refine lv_if_ne (tgt := 11) hx hb dX7_points_5 (by decide) (fun h5 => ?_) (fun h5 => ?_)
  · have hf := hs_ff h5 hf
    refine lv_iload_n hx hb dX7_points_11 rfl (lv_at hl 2 rfl) ?_
    by_cases h6 : a2 = 0
    · have hf := hs_tt h6 hf
      refine lv_tableIn (tgt := 48) hx hb dX7_points_12 (by rw [h6]; decide) (by rw [h6]; decide) (by rw [h6]; exact rfl) (by decide) ?_
      refine lv_aload_n hx hb dX7_points_48 rfl (lv_at hl 0 rfl) ?_
      refine lv_iload_n hx hb dX7_points_49 rfl (lv_at hl 1 rfl) ?_
      refine lv_bipush (v := 100) hx hb dX7_points_50 (by decide) ?_
      obtain ⟨_, h9, hf⟩ := hs_bi hf
      obtain ⟨v10, σ8, h7, hf⟩ := hs_b2i hf
      refine hs_call0 (va_runV (As := [.int a1, .int 100]) (rest := []) ⟨hx, hb, hml, hown, hts⟩ (ctX7_pointsAhead l fu σ2 o a1 100 X ad H.size _ _ h7) (cwV 2 hts gX7_points_X7_pointsAhead rfl rfl rfl (by decide +kernel) ⟨Nat.le_of_ble_eq_true rfl, Nat.le_of_ble_eq_true rfl⟩) (hs_preV (hs_recv hK hB (hs_ck_i h9) (by decide) rfl) hV hB hS hA0 hA hem) rfl rfl hl.1 rfl (lv_room (Nat.le_of_ble_eq_true rfl)) dX7_points_52 ⟨Nat.le_of_ble_eq_true rfl, Nat.le_of_ble_eq_true rfl⟩) hB hS hA rfl (fun H locs hB hS => ?_)
      obtain ⟨rfl, rfl⟩ := hs_ri hf
      exact hs_iret hx hb hr hlk hB hS dX7_points_55
    have hf := hs_ff h6 hf
    by_cases h11 : a2 = 1
    · have hf := hs_tt h11 hf
      refine lv_tableIn (tgt := 56) hx hb dX7_points_12 (by rw [h11]; decide) (by rw [h11]; decide) (by rw [h11]; exact rfl) (by decide) ?_
      refine lv_aload_n hx hb dX7_points_56 rfl (lv_at hl 0 rfl) ?_
      refine lv_iload_n hx hb dX7_points_57 rfl (lv_at hl 1 rfl) ?_
      refine lv_bipush (v := 100) hx hb dX7_points_58 (by decide) ?_
      obtain ⟨_, h14, hf⟩ := hs_bi hf
      obtain ⟨v15, σ13, h12, hf⟩ := hs_b2i hf
      refine hs_call0 (va_runV (As := [.int a1, .int 100]) (rest := []) ⟨hx, hb, hml, hown, hts⟩ (ctX7_upPoints l fu σ2 o a1 100 X ad H.size _ _ h12) (cwV 2 hts gX7_points_X7_upPoints rfl rfl rfl (by decide +kernel) ⟨Nat.le_of_ble_eq_true rfl, Nat.le_of_ble_eq_true rfl⟩) (hs_preV (hs_recv hK hB (hs_ck_i h14) (by decide) rfl) hV hB hS hA0 hA hem) rfl rfl hl.1 rfl (lv_room (Nat.le_of_ble_eq_true rfl)) dX7_points_60 ⟨Nat.le_of_ble_eq_true rfl, Nat.le_of_ble_eq_true rfl⟩) hB hS hA rfl (fun H locs hB hS => ?_)
      obtain ⟨rfl, rfl⟩ := hs_ri hf
      exact hs_iret hx hb hr hlk hB hS dX7_points_63
    have hf := hs_ff h11 hf
    by_cases h16 : a2 = 2
    · have hf := hs_tt h16 hf
      refine lv_tableIn (tgt := 64) hx hb dX7_points_12 (by rw [h16]; decide) (by rw [h16]; decide) (by rw [h16]; exact rfl) (by decide) ?_
      refine lv_aload_n hx hb dX7_points_64 rfl (lv_at hl 0 rfl) ?_
      refine lv_iload_n hx hb dX7_points_65 rfl (lv_at hl 1 rfl) ?_
      refine lv_bipush (v := 100) hx hb dX7_points_66 (by decide) ?_
      obtain ⟨_, h19, hf⟩ := hs_bi hf
      obtain ⟨v20, σ18, h17, hf⟩ := hs_b2i hf
      refine hs_call0 (va_runV (As := [.int a1, .int 100]) (rest := []) ⟨hx, hb, hml, hown, hts⟩ (ctX7_stolenPoints l fu σ2 o a1 100 X ad H.size _ _ h17) (cwV 2 hts gX7_points_X7_stolenPoints rfl rfl rfl (by decide +kernel) ⟨Nat.le_of_ble_eq_true rfl, Nat.le_of_ble_eq_true rfl⟩) (hs_preV (hs_recv hK hB (hs_ck_i h19) (by decide) rfl) hV hB hS hA0 hA hem) rfl rfl hl.1 rfl (lv_room (Nat.le_of_ble_eq_true rfl)) dX7_points_68 ⟨Nat.le_of_ble_eq_true rfl, Nat.le_of_ble_eq_true rfl⟩) hB hS hA rfl (fun H locs hB hS => ?_)
      obtain ⟨rfl, rfl⟩ := hs_ri hf
      exact hs_iret hx hb hr hlk hB hS dX7_points_71
    have hf := hs_ff h16 hf
    by_cases h21 : a2 = 3
    · have hf := hs_tt h21 hf
      refine lv_tableIn (tgt := 72) hx hb dX7_points_12 (by rw [h21]; decide) (by rw [h21]; decide) (by rw [h21]; exact rfl) (by decide) ?_
      refine lv_aload_n hx hb dX7_points_72 rfl (lv_at hl 0 rfl) ?_
      refine lv_iload_n hx hb dX7_points_73 rfl (lv_at hl 1 rfl) ?_
      refine lv_bipush (v := 100) hx hb dX7_points_74 (by decide) ?_
      obtain ⟨_, h24, hf⟩ := hs_bi hf
      obtain ⟨v25, σ23, h22, hf⟩ := hs_b2i hf
      refine hs_call0 (va_runV (As := [.int a1, .int 100]) (rest := []) ⟨hx, hb, hml, hown, hts⟩ (ctX7_takenOff l fu σ2 o a1 100 X ad H.size _ _ h22) (cwV 2 hts gX7_points_X7_takenOff rfl rfl rfl (by decide +kernel) ⟨Nat.le_of_ble_eq_true rfl, Nat.le_of_ble_eq_true rfl⟩) (hs_preV (hs_recv hK hB (hs_ck_i h24) (by decide) rfl) hV hB hS hA0 hA hem) rfl rfl hl.1 rfl (lv_room (Nat.le_of_ble_eq_true rfl)) dX7_points_76 ⟨Nat.le_of_ble_eq_true rfl, Nat.le_of_ble_eq_true rfl⟩) hB hS hA rfl (fun H locs hB hS => ?_)
      obtain ⟨rfl, rfl⟩ := hs_ri hf
      exact hs_iret hx hb hr hlk hB hS dX7_points_79
    have hf := hs_ff h21 hf
    by_cases h26 : a2 = 4
    · have hf := hs_tt h26 hf
      refine lv_tableIn (tgt := 80) hx hb dX7_points_12 (by rw [h26]; decide) (by rw [h26]; decide) (by rw [h26]; exact rfl) (by decide) ?_
      refine lv_aload_n hx hb dX7_points_80 rfl (lv_at hl 0 rfl) ?_
      refine lv_iload_n hx hb dX7_points_81 rfl (lv_at hl 1 rfl) ?_
      obtain ⟨_, h29, hf⟩ := hs_bi hf
      obtain ⟨v30, σ28, h27, hf⟩ := hs_b2i hf
      refine hs_call0 (va_runV (As := [.int a1]) (rest := []) ⟨hx, hb, hml, hown, hts⟩ (ctX7_handInsBy l fu σ2 o a1 X ad H.size _ _ h27) (cwV 1 hts gX7_points_X7_handInsBy rfl rfl rfl (by decide +kernel) ⟨Nat.le_of_ble_eq_true rfl, Nat.le_of_ble_eq_true rfl⟩) (hs_preV (hs_recv hK hB (hs_ck_i h29) (by decide) rfl) hV hB hS hA0 hA hem) rfl rfl hl.1 rfl (lv_room (Nat.le_of_ble_eq_true rfl)) dX7_points_82 ⟨Nat.le_of_ble_eq_true rfl, Nat.le_of_ble_eq_true rfl⟩) hB hS hA rfl (fun H locs hB hS => ?_)
      obtain ⟨rfl, rfl⟩ := hs_ri hf
      exact hs_iret hx hb hr hlk hB hS dX7_points_85
    have hf := hs_ff h26 hf
    refine lv_tableOut (tgt := 86) hx hb dX7_points_12 (by have g0 := lv_neT h6 (a := 0) (by decide); have g1 := lv_neT h11 (a := 1) (by decide); have g2 := lv_neT h16 (a := 2) (by decide); have g3 := lv_neT h21 (a := 3) (by decide); have g4 := lv_neT h26 (a := 4) (by decide); omega) (by decide) ?_
    refine lv_ldc hx hb hown (hts _ lkX7_points_0) dX7_points_86 ?_
    obtain ⟨rfl, rfl⟩ := hs_ri hf
    exact hs_iret hx hb hr hlk hB hS dX7_points_88
  · have hf := hs_tt h5 hf
    refine lv_ldc hx hb hown (hts _ lkX7_points_0) dX7_points_8 ?_
    obtain ⟨rfl, rfl⟩ := hs_ri hf
    exact hs_iret hx hb hr hlk hB hS dX7_points_10
end SX7_points
set_option maxRecDepth 100000 in
theorem ctX7_points (l : Launch) (fu : Nat) (σ : hs_T) (o : Nat) (a1 : Int32) (a2 : Int32) : hs_C0 hs_tvi l yX7_points wsX7_points rmX7_points (fun ad => [.ref (ad o), .int a1, .int a2]) σ (fX7_points fu σ o a1 a2) := by
  intro X ad sz r τ hf
  refine hs_enter (cc := cX7_points) (maxL := 3) (ret := (some .int)) (by decide) rfl (Nat.le_of_ble_eq_true rfl) ?_
  intro p e s m below meth c ls C hl hem hB hS hsz
  exact wX7_points_e fu C hem σ o a1 a2 hf hB hS hl
/-! ServiceGame.placeOnBoard(II)I -/
abbrev rmX7_placeOnBoard : Room := { frames := 0, cells := 0, slots := 0, locals := 0 }
theorem inX7_placeOnBoard_X7 : ∀ w ∈ wsX70, w ∈ wsX7_placeOnBoard := fun _ h => List.mem_cons_of_mem _ (List.mem_append_right _ h)
theorem lkX7_placeOnBoard_0 : Cond.fieldLink RX7 51 "ServiceGame" "boardPoints" "[I" ∈ wsX7_placeOnBoard := by decide +kernel
def fX7_placeOnBoard_61 (fu : Nat) (k5 : hs_T → Nat → Int32 → Int32 → Int32 → Int32 → Option (Int32 × hs_T)) (σ : hs_T) (x0 : Nat) (x1 : Int32) (x2 : Int32) (x3 : Int32) (x4 : Int32) (x5 : Int32) (y0 : Int32) : Option (Int32 × hs_T) :=
 if x5 = 0 then
 (if y0 = 0 then
 (k5 σ x0 x1 x2 x3 (x4 + 1))
 else
 (k5 σ x0 x1 x2 (x3 + 1) (x4 + 1)))
 else
 (k5 σ x0 x1 x2 (x3 + 1) (x4 + 1))
def fX7_placeOnBoard_60 (fu : Nat) (k5 : hs_T → Nat → Int32 → Int32 → Int32 → Int32 → Option (Int32 × hs_T)) (σ : hs_T) (x0 : Nat) (x1 : Int32) (x2 : Int32) (x3 : Int32) (x4 : Int32) (x5 : Int32) : Option (Int32 × hs_T) :=
 fX7_placeOnBoard_61 fu k5 σ x0 x1 x2 x3 x4 x5 0
def fX7_placeOnBoard_32 (fu : Nat) (k5 : hs_T → Nat → Int32 → Int32 → Int32 → Int32 → Option (Int32 × hs_T)) (σ : hs_T) (x0 : Nat) (x1 : Int32) (x2 : Int32) (x3 : Int32) (x4 : Int32) (y0 : Int32) : Option (Int32 × hs_T) :=
 (hs_gN σ 9 x0 7).bind fun n12 =>
 (hs_ld σ 11 n12 x4).bind fun v13 =>
 (hs_gN σ 9 x0 7).bind fun n16 =>
 (hs_ld σ 11 n16 x1).bind fun v17 =>
 if v13 = v17 then
 (if x1 ≤ x4 then
 (fX7_placeOnBoard_60 fu k5 σ x0 x1 x2 x3 x4 y0)
 else
 (fX7_placeOnBoard_61 fu k5 σ x0 x1 x2 x3 x4 y0 1))
 else
 (fX7_placeOnBoard_60 fu k5 σ x0 x1 x2 x3 x4 y0)
def fX7_placeOnBoard_5b (fu : Nat)  (k5 : hs_T → Nat → Int32 → Int32 → Int32 → Int32 → Option (Int32 × hs_T)) (σ : hs_T) (x0 : Nat) (x1 : Int32) (x2 : Int32) (x3 : Int32) (x4 : Int32) : Option (Int32 × hs_T) :=
 if x2 ≤ x4 then
 (some (x3, σ))
 else
 ((hs_gN σ 9 x0 7).bind fun n3 =>
 (hs_ld σ 11 n3 x4).bind fun v4 =>
 (hs_gN σ 9 x0 7).bind fun n7 =>
 (hs_ld σ 11 n7 x1).bind fun v8 =>
 if v4 ≤ v8 then
 (fX7_placeOnBoard_32 fu k5 σ x0 x1 x2 x3 x4 0)
 else
 (fX7_placeOnBoard_32 fu k5 σ x0 x1 x2 x3 x4 1))
def fX7_placeOnBoard_5 (fu : Nat)  (σ : hs_T) (x0 : Nat) (x1 : Int32) (x2 : Int32) (x3 : Int32) (x4 : Int32) : Option (Int32 × hs_T) :=
   hs_lp (fun (k : hs_T × Nat × Int32 × Int32 × Int32 × Int32 → Option (Int32 × hs_T)) (a : hs_T × Nat × Int32 × Int32 × Int32 × Int32) => fX7_placeOnBoard_5b fu  (fun σ x0 x1 x2 x3 x4 => k (σ, x0, x1, x2, x3, x4)) a.1 a.2.1 a.2.2.1 a.2.2.2.1 a.2.2.2.2.1 a.2.2.2.2.2) fu (σ, x0, x1, x2, x3, x4)
def fX7_placeOnBoard (fu : Nat) (σ : hs_T) (o : Nat) (a1 : Int32) (a2 : Int32) : Option (Int32 × hs_T) :=
 fX7_placeOnBoard_5 fu σ o a1 a2 0 0
section SX7_placeOnBoard
variable {p : Program} {l : Launch} {e : Env} {s : State} {m : MethodId} {args : Array Value} {below : List Frame} {meth : Method} {c : Code} {X : hs_X} {ad : Nat → Nat} {A : Nat → Prop} {r : Int32} {τ : hs_T}
set_option maxRecDepth 100000 in
set_option maxHeartbeats 4000000 in
theorem wX7_placeOnBoard_61 (fu : Nat) (C : hs_Cx p s m args meth c X A yX7_placeOnBoard cX7_placeOnBoard 7 (some .int) wsX7_placeOnBoard) (hem : ad hs_em = X.2.2.1.2.2.2) (k5 : hs_T → Nat → Int32 → Int32 → Int32 → Int32 → Option (Int32 × hs_T)) (hk5 : ∀ (σ : hs_T) (x0 : Nat) (x1 : Int32) (x2 : Int32) (x3 : Int32) (x4 : Int32) (H : Heap) (locs : List Loc) (ls : Array Slot), k5 σ x0 x1 x2 x3 x4 = some (r, τ) → hs_H X.1 X.2.1 ad A σ H → va_S A s.heap H locs → lv_has ls 7 [(0, .ref (ad x0)), (1, .int x1), (2, .int x2), (3, .int x3), (4, .int x4)] → W p l e rmX7_placeOnBoard s m args below meth c H locs 0 0 (MQ below (hs_Q0 hs_tvi X ad A r τ) args s 0 0 A) (F0 m 5 ls [])) {H : Heap} {locs : List Loc} {ls : Array Slot} (σ : hs_T) (x0 : Nat) (x1 : Int32) (x2 : Int32) (x3 : Int32) (x4 : Int32) (x5 : Int32) (y0 : Int32) (hf : fX7_placeOnBoard_61 fu k5 σ x0 x1 x2 x3 x4 x5 y0 = some (r, τ)) (hB : hs_H X.1 X.2.1 ad A σ H) (hS : va_S A s.heap H locs) (hl : lv_has ls 7 [(0, .ref (ad x0)), (1, .int x1), (2, .int x2), (3, .int x3), (4, .int x4), (5, .int x5)]) : W p l e rmX7_placeOnBoard s m args below meth c H locs 0 0 (MQ below (hs_Q0 hs_tvi X ad A r τ) args s 0 0 A) (F0 m 61 ls [.int y0]) := by
  obtain ⟨hx, hb, hml, hr, hts, hown, hlk, hnm, hV, hA0, hA⟩ := id C
  have hown : s.vm.findClass RX7 = some m.cls := hown
  have hK := hV.1
  have hNw := hV.2.1
  unfold fX7_placeOnBoard_61 at hf
  refine lv_istore (lv' := [(6, .int y0), (0, .ref (ad x0)), (1, .int x1), (2, .int x2), (3, .int x3), (4, .int x4), (5, .int x5)]) hx hb dX7_placeOnBoard_61 hl (by decide) rfl (fun ls hl => ?_)
  refine lv_iload hx hb dX7_placeOnBoard_63 (lv_at hl 6 rfl) ?_
  refine lv_if_ne (tgt := 73) hx hb dX7_placeOnBoard_65 (by decide) (fun h20 => ?_) (fun h20 => ?_)
  · have hf := hs_ff h20 hf
    refine lv_iinc (v := (x3 + 1)) (lv' := [(3, .int (x3 + 1)), (6, .int y0), (0, .ref (ad x0)), (1, .int x1), (2, .int x2), (4, .int x4), (5, .int x5)]) hx hb dX7_placeOnBoard_73 hl (k := 4) rfl rfl (by decide) rfl (fun ls hl => ?_)
    refine lv_iinc (v := (x4 + 1)) (lv' := [(4, .int (x4 + 1)), (3, .int (x3 + 1)), (6, .int y0), (0, .ref (ad x0)), (1, .int x1), (2, .int x2), (5, .int x5)]) hx hb dX7_placeOnBoard_76 hl (k := 5) rfl rfl (by decide) rfl (fun ls hl => ?_)
    refine lv_goto (tgt := 5) hx hb dX7_placeOnBoard_79 (by decide) ?_
    exact hk5 σ x0 x1 x2 (x3 + 1) (x4 + 1) _ _ _ hf hB hS (lv_sub hl [3, 4, 5, 1, 0] rfl)
  · have hf := hs_tt h20 hf
    refine lv_iload hx hb dX7_placeOnBoard_68 (lv_at hl 0 rfl) ?_
    refine lv_if_eq (tgt := 76) hx hb dX7_placeOnBoard_70 (by decide) (fun h21 => ?_) (fun h21 => ?_)
    · have hf := hs_tt h21 hf
      refine lv_iinc (v := (x4 + 1)) (lv' := [(4, .int (x4 + 1)), (6, .int y0), (0, .ref (ad x0)), (1, .int x1), (2, .int x2), (3, .int x3), (5, .int x5)]) hx hb dX7_placeOnBoard_76 hl (k := 5) rfl rfl (by decide) rfl (fun ls hl => ?_)
      refine lv_goto (tgt := 5) hx hb dX7_placeOnBoard_79 (by decide) ?_
      exact hk5 σ x0 x1 x2 x3 (x4 + 1) _ _ _ hf hB hS (lv_sub hl [2, 3, 4, 5, 0] rfl)
    · have hf := hs_ff h21 hf
      refine lv_iinc (v := (x3 + 1)) (lv' := [(3, .int (x3 + 1)), (6, .int y0), (0, .ref (ad x0)), (1, .int x1), (2, .int x2), (4, .int x4), (5, .int x5)]) hx hb dX7_placeOnBoard_73 hl (k := 4) rfl rfl (by decide) rfl (fun ls hl => ?_)
      refine lv_iinc (v := (x4 + 1)) (lv' := [(4, .int (x4 + 1)), (3, .int (x3 + 1)), (6, .int y0), (0, .ref (ad x0)), (1, .int x1), (2, .int x2), (5, .int x5)]) hx hb dX7_placeOnBoard_76 hl (k := 5) rfl rfl (by decide) rfl (fun ls hl => ?_)
      refine lv_goto (tgt := 5) hx hb dX7_placeOnBoard_79 (by decide) ?_
      exact hk5 σ x0 x1 x2 (x3 + 1) (x4 + 1) _ _ _ hf hB hS (lv_sub hl [3, 4, 5, 1, 0] rfl)
set_option maxRecDepth 100000 in
set_option maxHeartbeats 4000000 in
theorem wX7_placeOnBoard_60 (fu : Nat) (C : hs_Cx p s m args meth c X A yX7_placeOnBoard cX7_placeOnBoard 7 (some .int) wsX7_placeOnBoard) (hem : ad hs_em = X.2.2.1.2.2.2) (k5 : hs_T → Nat → Int32 → Int32 → Int32 → Int32 → Option (Int32 × hs_T)) (hk5 : ∀ (σ : hs_T) (x0 : Nat) (x1 : Int32) (x2 : Int32) (x3 : Int32) (x4 : Int32) (H : Heap) (locs : List Loc) (ls : Array Slot), k5 σ x0 x1 x2 x3 x4 = some (r, τ) → hs_H X.1 X.2.1 ad A σ H → va_S A s.heap H locs → lv_has ls 7 [(0, .ref (ad x0)), (1, .int x1), (2, .int x2), (3, .int x3), (4, .int x4)] → W p l e rmX7_placeOnBoard s m args below meth c H locs 0 0 (MQ below (hs_Q0 hs_tvi X ad A r τ) args s 0 0 A) (F0 m 5 ls [])) {H : Heap} {locs : List Loc} {ls : Array Slot} (σ : hs_T) (x0 : Nat) (x1 : Int32) (x2 : Int32) (x3 : Int32) (x4 : Int32) (x5 : Int32) (hf : fX7_placeOnBoard_60 fu k5 σ x0 x1 x2 x3 x4 x5 = some (r, τ)) (hB : hs_H X.1 X.2.1 ad A σ H) (hS : va_S A s.heap H locs) (hl : lv_has ls 7 [(0, .ref (ad x0)), (1, .int x1), (2, .int x2), (3, .int x3), (4, .int x4), (5, .int x5)]) : W p l e rmX7_placeOnBoard s m args below meth c H locs 0 0 (MQ below (hs_Q0 hs_tvi X ad A r τ) args s 0 0 A) (F0 m 60 ls []) := by
  obtain ⟨hx, hb, hml, hr, hts, hown, hlk, hnm, hV, hA0, hA⟩ := id C
  have hown : s.vm.findClass RX7 = some m.cls := hown
  have hK := hV.1
  have hNw := hV.2.1
  unfold fX7_placeOnBoard_60 at hf
  refine lv_iconst (v := 0) hx hb dX7_placeOnBoard_60 (by decide) ?_
  exact wX7_placeOnBoard_61 fu C hem k5 hk5 σ x0 x1 x2 x3 x4 x5 0 hf hB hS hl
set_option maxRecDepth 100000 in
set_option maxHeartbeats 4000000 in
theorem wX7_placeOnBoard_32 (fu : Nat) (C : hs_Cx p s m args meth c X A yX7_placeOnBoard cX7_placeOnBoard 7 (some .int) wsX7_placeOnBoard) (hem : ad hs_em = X.2.2.1.2.2.2) (k5 : hs_T → Nat → Int32 → Int32 → Int32 → Int32 → Option (Int32 × hs_T)) (hk5 : ∀ (σ : hs_T) (x0 : Nat) (x1 : Int32) (x2 : Int32) (x3 : Int32) (x4 : Int32) (H : Heap) (locs : List Loc) (ls : Array Slot), k5 σ x0 x1 x2 x3 x4 = some (r, τ) → hs_H X.1 X.2.1 ad A σ H → va_S A s.heap H locs → lv_has ls 7 [(0, .ref (ad x0)), (1, .int x1), (2, .int x2), (3, .int x3), (4, .int x4)] → W p l e rmX7_placeOnBoard s m args below meth c H locs 0 0 (MQ below (hs_Q0 hs_tvi X ad A r τ) args s 0 0 A) (F0 m 5 ls [])) {H : Heap} {locs : List Loc} {ls : Array Slot} (σ : hs_T) (x0 : Nat) (x1 : Int32) (x2 : Int32) (x3 : Int32) (x4 : Int32) (y0 : Int32) (hf : fX7_placeOnBoard_32 fu k5 σ x0 x1 x2 x3 x4 y0 = some (r, τ)) (hB : hs_H X.1 X.2.1 ad A σ H) (hS : va_S A s.heap H locs) (hl : lv_has ls 7 [(0, .ref (ad x0)), (1, .int x1), (2, .int x2), (3, .int x3), (4, .int x4)]) : W p l e rmX7_placeOnBoard s m args below meth c H locs 0 0 (MQ below (hs_Q0 hs_tvi X ad A r τ) args s 0 0 A) (F0 m 32 ls [.int y0]) := by
  obtain ⟨hx, hb, hml, hr, hts, hown, hlk, hnm, hV, hA0, hA⟩ := id C
  have hown : s.vm.findClass RX7 = some m.cls := hown
  have hK := hV.1
  have hNw := hV.2.1
  unfold fX7_placeOnBoard_32 at hf
  refine lv_istore (lv' := [(5, .int y0), (0, .ref (ad x0)), (1, .int x1), (2, .int x2), (3, .int x3), (4, .int x4)]) hx hb dX7_placeOnBoard_32 hl (by decide) rfl (fun ls hl => ?_)
  refine lv_aload_n hx hb dX7_placeOnBoard_34 rfl (lv_at hl 1 rfl) ?_
  obtain ⟨n12, h11, hf⟩ := hs_bi hf
  refine x_getN hx hb hts inX7_placeOnBoard_X7 hown hK hB (by decide) rfl (k := 7) (by decide) rfl h11 (hts _ lkX7_placeOnBoard_0) (fun _ h9 => h9) dX7_placeOnBoard_35 ?_
  refine lv_iload hx hb dX7_placeOnBoard_38 (lv_at hl 5 rfl) ?_
  obtain ⟨v13, h14, hf⟩ := hs_bi hf
  refine x_iald hx hb hK hB h14 dX7_placeOnBoard_40 ?_
  refine lv_aload_n hx hb dX7_placeOnBoard_41 rfl (lv_at hl 1 rfl) ?_
  obtain ⟨n16, h15, hf⟩ := hs_bi hf
  refine x_getN hx hb hts inX7_placeOnBoard_X7 hown hK hB (by decide) rfl (k := 7) (by decide) rfl h15 (hts _ lkX7_placeOnBoard_0) (fun _ h9 => h9) dX7_placeOnBoard_42 ?_
  refine lv_iload_n hx hb dX7_placeOnBoard_45 rfl (lv_at hl 2 rfl) ?_
  obtain ⟨v17, h18, hf⟩ := hs_bi hf
  refine x_iald hx hb hK hB h18 dX7_placeOnBoard_46 ?_
  refine lv_icmp_ne (tgt := 60) hx hb dX7_placeOnBoard_47 (by decide) (fun h19 => ?_) (fun h19 => ?_)
  · have hf := hs_ff h19 hf
    exact wX7_placeOnBoard_60 fu C hem k5 hk5 σ x0 x1 x2 x3 x4 y0 hf hB hS (lv_sub hl [1, 2, 3, 4, 5, 0] rfl)
  · have hf := hs_tt h19 hf
    refine lv_iload hx hb dX7_placeOnBoard_50 (lv_at hl 5 rfl) ?_
    refine lv_iload_n hx hb dX7_placeOnBoard_52 rfl (lv_at hl 2 rfl) ?_
    refine lv_icmp_ge (tgt := 60) hx hb dX7_placeOnBoard_53 (by decide) (fun h22 => ?_) (fun h22 => ?_)
    · have hf := hs_tt h22 hf
      exact wX7_placeOnBoard_60 fu C hem k5 hk5 σ x0 x1 x2 x3 x4 y0 hf hB hS (lv_sub hl [1, 2, 3, 4, 5, 0] rfl)
    · have hf := hs_ff h22 hf
      refine lv_iconst (v := 1) hx hb dX7_placeOnBoard_56 (by decide) ?_
      refine lv_goto (tgt := 61) hx hb dX7_placeOnBoard_57 (by decide) ?_
      exact wX7_placeOnBoard_61 fu C hem k5 hk5 σ x0 x1 x2 x3 x4 y0 1 hf hB hS (lv_sub hl [1, 2, 3, 4, 5, 0] rfl)
set_option maxRecDepth 100000 in
set_option maxHeartbeats 4000000 in
theorem wX7_placeOnBoard_5b (fu : Nat) (C : hs_Cx p s m args meth c X A yX7_placeOnBoard cX7_placeOnBoard 7 (some .int) wsX7_placeOnBoard) (hem : ad hs_em = X.2.2.1.2.2.2)  (k5 : hs_T → Nat → Int32 → Int32 → Int32 → Int32 → Option (Int32 × hs_T)) (hk5 : ∀ (σ : hs_T) (x0 : Nat) (x1 : Int32) (x2 : Int32) (x3 : Int32) (x4 : Int32) (H : Heap) (locs : List Loc) (ls : Array Slot), k5 σ x0 x1 x2 x3 x4 = some (r, τ) → hs_H X.1 X.2.1 ad A σ H → va_S A s.heap H locs → lv_has ls 7 [(0, .ref (ad x0)), (1, .int x1), (2, .int x2), (3, .int x3), (4, .int x4)] → W p l e rmX7_placeOnBoard s m args below meth c H locs 0 0 (MQ below (hs_Q0 hs_tvi X ad A r τ) args s 0 0 A) (F0 m 5 ls [])) {H : Heap} {locs : List Loc} {ls : Array Slot} (σ : hs_T) (x0 : Nat) (x1 : Int32) (x2 : Int32) (x3 : Int32) (x4 : Int32) (hf : fX7_placeOnBoard_5b fu  k5 σ x0 x1 x2 x3 x4 = some (r, τ)) (hB : hs_H X.1 X.2.1 ad A σ H) (hS : va_S A s.heap H locs) (hl : lv_has ls 7 [(0, .ref (ad x0)), (1, .int x1), (2, .int x2), (3, .int x3), (4, .int x4)]) : W p l e rmX7_placeOnBoard s m args below meth c H locs 0 0 (MQ below (hs_Q0 hs_tvi X ad A r τ) args s 0 0 A) (F0 m 5 ls []) := by
  obtain ⟨hx, hb, hml, hr, hts, hown, hlk, hnm, hV, hA0, hA⟩ := id C
  have hown : s.vm.findClass RX7 = some m.cls := hown
  have hK := hV.1
  have hNw := hV.2.1
  unfold fX7_placeOnBoard_5b at hf
  refine lv_iload hx hb dX7_placeOnBoard_5 (lv_at hl 4 rfl) ?_
  refine lv_iload_n hx hb dX7_placeOnBoard_7 rfl (lv_at hl 2 rfl) ?_
  refine lv_icmp_ge (tgt := 82) hx hb dX7_placeOnBoard_8 (by decide) (fun h1 => ?_) (fun h1 => ?_)
  · have hf := hs_tt h1 hf
    refine lv_iload_n hx hb dX7_placeOnBoard_82 rfl (lv_at hl 3 rfl) ?_
    obtain ⟨rfl, rfl⟩ := hs_ri hf
    exact hs_iret hx hb hr hlk hB hS dX7_placeOnBoard_83
  · have hf := hs_ff h1 hf
    refine lv_aload_n hx hb dX7_placeOnBoard_11 rfl (lv_at hl 0 rfl) ?_
    obtain ⟨n3, h2, hf⟩ := hs_bi hf
    refine x_getN hx hb hts inX7_placeOnBoard_X7 hown hK hB (by decide) rfl (k := 7) (by decide) rfl h2 (hts _ lkX7_placeOnBoard_0) (fun _ h9 => h9) dX7_placeOnBoard_12 ?_
    refine lv_iload hx hb dX7_placeOnBoard_15 (lv_at hl 4 rfl) ?_
    obtain ⟨v4, h5, hf⟩ := hs_bi hf
    refine x_iald hx hb hK hB h5 dX7_placeOnBoard_17 ?_
    refine lv_aload_n hx hb dX7_placeOnBoard_18 rfl (lv_at hl 0 rfl) ?_
    obtain ⟨n7, h6, hf⟩ := hs_bi hf
    refine x_getN hx hb hts inX7_placeOnBoard_X7 hown hK hB (by decide) rfl (k := 7) (by decide) rfl h6 (hts _ lkX7_placeOnBoard_0) (fun _ h9 => h9) dX7_placeOnBoard_19 ?_
    refine lv_iload_n hx hb dX7_placeOnBoard_22 rfl (lv_at hl 1 rfl) ?_
    obtain ⟨v8, h9, hf⟩ := hs_bi hf
    refine x_iald hx hb hK hB h9 dX7_placeOnBoard_23 ?_
    refine lv_icmp_le (tgt := 31) hx hb dX7_placeOnBoard_24 (by decide) (fun h10 => ?_) (fun h10 => ?_)
    · have hf := hs_tt h10 hf
      refine lv_iconst (v := 0) hx hb dX7_placeOnBoard_31 (by decide) ?_
      exact wX7_placeOnBoard_32 fu C hem k5 hk5 σ x0 x1 x2 x3 x4 0 hf hB hS hl
    · have hf := hs_ff h10 hf
      refine lv_iconst (v := 1) hx hb dX7_placeOnBoard_27 (by decide) ?_
      refine lv_goto (tgt := 32) hx hb dX7_placeOnBoard_28 (by decide) ?_
      exact wX7_placeOnBoard_32 fu C hem k5 hk5 σ x0 x1 x2 x3 x4 1 hf hB hS hl
set_option maxRecDepth 100000 in
set_option maxHeartbeats 4000000 in
theorem wX7_placeOnBoard_5 (fu : Nat) (C : hs_Cx p s m args meth c X A yX7_placeOnBoard cX7_placeOnBoard 7 (some .int) wsX7_placeOnBoard) (hem : ad hs_em = X.2.2.1.2.2.2)  {H : Heap} {locs : List Loc} {ls : Array Slot} (σ : hs_T) (x0 : Nat) (x1 : Int32) (x2 : Int32) (x3 : Int32) (x4 : Int32) (hf : fX7_placeOnBoard_5 fu  σ x0 x1 x2 x3 x4 = some (r, τ)) (hB : hs_H X.1 X.2.1 ad A σ H) (hS : va_S A s.heap H locs) (hl : lv_has ls 7 [(0, .ref (ad x0)), (1, .int x1), (2, .int x2), (3, .int x3), (4, .int x4)]) : W p l e rmX7_placeOnBoard s m args below meth c H locs 0 0 (MQ below (hs_Q0 hs_tvi X ad A r τ) args s 0 0 A) (F0 m 5 ls []) := by
  unfold fX7_placeOnBoard_5 at hf
  exact hs_lp_i (P := fun a => ∀ (H : Heap) (locs : List Loc) (ls : Array Slot), hs_H X.1 X.2.1 ad A a.1 H → va_S A s.heap H locs → lv_has ls 7 [(0, .ref (ad a.2.1)), (1, .int a.2.2.1), (2, .int a.2.2.2.1), (3, .int a.2.2.2.2.1), (4, .int a.2.2.2.2.2)] → W p l e rmX7_placeOnBoard s m args below meth c H locs 0 0 (MQ below (hs_Q0 hs_tvi X ad A r τ) args s 0 0 A) (F0 m 5 ls [])) (fun k a hk hf H locs ls hB hS hl => wX7_placeOnBoard_5b fu C hem  _ (fun σ x0 x1 x2 x3 x4 H locs ls hf hB hS hl => hk (σ, x0, x1, x2, x3, x4) hf H locs ls hB hS hl) a.1 a.2.1 a.2.2.1 a.2.2.2.1 a.2.2.2.2.1 a.2.2.2.2.2 hf hB hS hl) fu (σ, x0, x1, x2, x3, x4) hf H locs ls hB hS hl
set_option maxRecDepth 100000 in
set_option maxHeartbeats 4000000 in
theorem wX7_placeOnBoard_e (fu : Nat) (C : hs_Cx p s m args meth c X A yX7_placeOnBoard cX7_placeOnBoard 7 (some .int) wsX7_placeOnBoard) (hem : ad hs_em = X.2.2.1.2.2.2) {H : Heap} {locs : List Loc} {ls : Array Slot} (σ : hs_T) (o : Nat) (a1 : Int32) (a2 : Int32) (hf : fX7_placeOnBoard fu σ o a1 a2 = some (r, τ)) (hB : hs_H X.1 X.2.1 ad A σ H) (hS : va_S A s.heap H locs) (hl : lv_has ls 7 [(0, .ref (ad o)), (1, .int a1), (2, .int a2)]) : W p l e rmX7_placeOnBoard s m args below meth c H locs 0 0 (MQ below (hs_Q0 hs_tvi X ad A r τ) args s 0 0 A) (F0 m 0 ls []) := by
  obtain ⟨hx, hb, hml, hr, hts, hown, hlk, hnm, hV, hA0, hA⟩ := id C
  have hown : s.vm.findClass RX7 = some m.cls := hown
  have hK := hV.1
  have hNw := hV.2.1
  unfold fX7_placeOnBoard at hf
  refine lv_iconst (v := 0) hx hb dX7_placeOnBoard_0 (by decide) ?_
  refine lv_istore_n (lv' := [(3, .int 0), (0, .ref (ad o)), (1, .int a1), (2, .int a2)]) hx hb dX7_placeOnBoard_1 rfl hl (by decide) rfl (fun ls hl => ?_)
  refine lv_iconst (v := 0) hx hb dX7_placeOnBoard_2 (by decide) ?_
  refine lv_istore (lv' := [(4, .int 0), (3, .int 0), (0, .ref (ad o)), (1, .int a1), (2, .int a2)]) hx hb dX7_placeOnBoard_3 hl (by decide) rfl (fun ls hl => ?_)
  exact wX7_placeOnBoard_5 fu C hem σ o a1 a2 0 0 hf hB hS (lv_sub hl [2, 3, 4, 1, 0] rfl)
end SX7_placeOnBoard
set_option maxRecDepth 100000 in
theorem ctX7_placeOnBoard (l : Launch) (fu : Nat) (σ : hs_T) (o : Nat) (a1 : Int32) (a2 : Int32) : hs_C0 hs_tvi l yX7_placeOnBoard wsX7_placeOnBoard rmX7_placeOnBoard (fun ad => [.ref (ad o), .int a1, .int a2]) σ (fX7_placeOnBoard fu σ o a1 a2) := by
  intro X ad sz r τ hf
  refine hs_enter (cc := cX7_placeOnBoard) (maxL := 7) (ret := (some .int)) (by decide) rfl (Nat.le_of_ble_eq_true rfl) ?_
  intro p e s m below meth c ls C hl hem hB hS hsz
  exact wX7_placeOnBoard_e fu C hem σ o a1 a2 hf hB hS hl
/-! ServiceGame.board(II)I -/
abbrev rmX7_board : Room := { frames := 5, cells := 0, slots := 0, locals := 112 }
theorem inX7_board_X7 : ∀ w ∈ wsX70, w ∈ wsX7_board := fun _ h => List.mem_cons_of_mem _ (List.mem_append_left _ (List.mem_append_left _ (List.mem_append_left _ (List.mem_append_right _ h))))
theorem lkX7_board_0 : Cond.constant RX7 196 (-1000000) ∈ wsX7_board := by decide +kernel
theorem lkX7_board_1 : Cond.fieldLink RX7 51 "ServiceGame" "boardPoints" "[I" ∈ wsX7_board := by decide +kernel
theorem lkX7_board_2 : Cond.fieldLink RX7 7 "ServiceGame" "settings" "[I" ∈ wsX7_board := by decide +kernel
def fX7_board_17 (fu : Nat)  (σ : hs_T)  : Option (Int32 × hs_T) :=
 some ((-1000000), σ)
def fX7_board_62b (fu : Nat)  (k62 : hs_T → Nat → Int32 → Int32 → Int32 → Int32 → Option (Int32 × hs_T)) (σ : hs_T) (x0 : Nat) (x1 : Int32) (x2 : Int32) (x3 : Int32) (x4 : Int32) : Option (Int32 × hs_T) :=
 if x3 ≤ x4 then
 (some ((-1000000), σ))
 else
 ((hs_ck σ 9 x0).bind fun _ =>
 hs_b2 (fX7_placeOnBoard fu σ x0 x4 x3) fun v17 σ15 =>
 if v17 = x1 then
 (if x2 = 0 then
 (some (x4, σ15))
 else
 ((hs_gN σ15 9 x0 7).bind fun n21 =>
 (hs_ld σ15 11 n21 x4).bind fun v22 =>
 some (v22, σ15)))
 else
 (k62 σ15 x0 x1 x2 x3 (x4 + 1)))
def fX7_board_62 (fu : Nat)  (σ : hs_T) (x0 : Nat) (x1 : Int32) (x2 : Int32) (x3 : Int32) (x4 : Int32) : Option (Int32 × hs_T) :=
   hs_lp (fun (k : hs_T × Nat × Int32 × Int32 × Int32 × Int32 → Option (Int32 × hs_T)) (a : hs_T × Nat × Int32 × Int32 × Int32 × Int32) => fX7_board_62b fu  (fun σ x0 x1 x2 x3 x4 => k (σ, x0, x1, x2, x3, x4)) a.1 a.2.1 a.2.2.1 a.2.2.2.1 a.2.2.2.2.1 a.2.2.2.2.2) fu (σ, x0, x1, x2, x3, x4)
def fX7_board_28b (fu : Nat)  (k28 : hs_T → Nat → Int32 → Int32 → Int32 → Int32 → Option (Int32 × hs_T)) (σ : hs_T) (x0 : Nat) (x1 : Int32) (x2 : Int32) (x3 : Int32) (x4 : Int32) : Option (Int32 × hs_T) :=
 if x3 ≤ x4 then
 (fX7_board_62 fu σ x0 x1 x2 x3 0)
 else
 ((hs_gN σ 9 x0 7).bind fun n25 =>
 (hs_gN σ 9 x0 0).bind fun n27 =>
 (hs_ld σ 11 n27 3).bind fun v28 =>
 (hs_ck σ 9 x0).bind fun _ =>
 hs_b2 (fX7_pointsAhead fu σ x0 x4 v28) fun v33 σ31 =>
 (hs_st σ31 11 n25 x4 v33).bind fun σ34 =>
 k28 σ34 x0 x1 x2 x3 (x4 + 1))
def fX7_board_28 (fu : Nat)  (σ : hs_T) (x0 : Nat) (x1 : Int32) (x2 : Int32) (x3 : Int32) (x4 : Int32) : Option (Int32 × hs_T) :=
   hs_lp (fun (k : hs_T × Nat × Int32 × Int32 × Int32 × Int32 → Option (Int32 × hs_T)) (a : hs_T × Nat × Int32 × Int32 × Int32 × Int32) => fX7_board_28b fu  (fun σ x0 x1 x2 x3 x4 => k (σ, x0, x1, x2, x3, x4)) a.1 a.2.1 a.2.2.1 a.2.2.2.1 a.2.2.2.2.1 a.2.2.2.2.2) fu (σ, x0, x1, x2, x3, x4)
def fX7_board (fu : Nat) (σ : hs_T) (o : Nat) (a1 : Int32) (a2 : Int32) : Option (Int32 × hs_T) :=
 (hs_ck σ 9 o).bind fun _ =>
 hs_b2 (fX7_isTeam fu σ o a1) fun v4 σ2 =>
 if v4 = 0 then
 (fX7_board_17 fu σ2 )
 else
 (if a2 < 0 then
 (fX7_board_17 fu σ2 )
 else
 (if a2 ≤ 1 then
 ((hs_ck σ2 9 o).bind fun _ =>
 hs_b2 (fX7_teams fu σ2 o) fun v11 σ9 =>
 fX7_board_28 fu σ9 o a1 a2 v11 0)
 else
 (fX7_board_17 fu σ2 )))
section SX7_board
variable {p : Program} {l : Launch} {e : Env} {s : State} {m : MethodId} {args : Array Value} {below : List Frame} {meth : Method} {c : Code} {X : hs_X} {ad : Nat → Nat} {A : Nat → Prop} {r : Int32} {τ : hs_T}
set_option maxRecDepth 100000 in
set_option maxHeartbeats 4000000 in
theorem wX7_board_17 (fu : Nat) (C : hs_Cx p s m args meth c X A yX7_board cX7_board 5 (some .int) wsX7_board) (hem : ad hs_em = X.2.2.1.2.2.2)  {H : Heap} {locs : List Loc} {ls : Array Slot} (σ : hs_T)  (hf : fX7_board_17 fu  σ  = some (r, τ)) (hB : hs_H X.1 X.2.1 ad A σ H) (hS : va_S A s.heap H locs) (hl : lv_has ls 5 []) : W p l e rmX7_board s m args below meth c H locs 0 0 (MQ below (hs_Q0 hs_tvi X ad A r τ) args s 0 0 A) (F0 m 17 ls []) := by
  obtain ⟨hx, hb, hml, hr, hts, hown, hlk, hnm, hV, hA0, hA⟩ := id C
  have hown : s.vm.findClass RX7 = some m.cls := hown
  have hK := hV.1
  have hNw := hV.2.1
  unfold fX7_board_17 at hf
  refine lv_ldc hx hb hown (hts _ lkX7_board_0) dX7_board_17 ?_
  obtain ⟨rfl, rfl⟩ := hs_ri hf
  exact hs_iret hx hb hr hlk hB hS dX7_board_19
set_option maxRecDepth 100000 in
set_option maxHeartbeats 4000000 in
theorem wX7_board_62b (fu : Nat) (C : hs_Cx p s m args meth c X A yX7_board cX7_board 5 (some .int) wsX7_board) (hem : ad hs_em = X.2.2.1.2.2.2)  (k62 : hs_T → Nat → Int32 → Int32 → Int32 → Int32 → Option (Int32 × hs_T)) (hk62 : ∀ (σ : hs_T) (x0 : Nat) (x1 : Int32) (x2 : Int32) (x3 : Int32) (x4 : Int32) (H : Heap) (locs : List Loc) (ls : Array Slot), k62 σ x0 x1 x2 x3 x4 = some (r, τ) → hs_H X.1 X.2.1 ad A σ H → va_S A s.heap H locs → lv_has ls 5 [(0, .ref (ad x0)), (1, .int x1), (2, .int x2), (3, .int x3), (4, .int x4)] → W p l e rmX7_board s m args below meth c H locs 0 0 (MQ below (hs_Q0 hs_tvi X ad A r τ) args s 0 0 A) (F0 m 62 ls [])) {H : Heap} {locs : List Loc} {ls : Array Slot} (σ : hs_T) (x0 : Nat) (x1 : Int32) (x2 : Int32) (x3 : Int32) (x4 : Int32) (hf : fX7_board_62b fu  k62 σ x0 x1 x2 x3 x4 = some (r, τ)) (hB : hs_H X.1 X.2.1 ad A σ H) (hS : va_S A s.heap H locs) (hl : lv_has ls 5 [(0, .ref (ad x0)), (1, .int x1), (2, .int x2), (3, .int x3), (4, .int x4)]) : W p l e rmX7_board s m args below meth c H locs 0 0 (MQ below (hs_Q0 hs_tvi X ad A r τ) args s 0 0 A) (F0 m 62 ls []) := by
  obtain ⟨hx, hb, hml, hr, hts, hown, hlk, hnm, hV, hA0, hA⟩ := id C
  have hown : s.vm.findClass RX7 = some m.cls := hown
  have hK := hV.1
  have hNw := hV.2.1
  unfold fX7_board_62b at hf
  refine lv_iload hx hb dX7_board_62 (lv_at hl 4 rfl) ?_
  refine lv_iload_n hx hb dX7_board_64 rfl (lv_at hl 3 rfl) ?_
  refine lv_icmp_ge (tgt := 102) hx hb dX7_board_65 (by decide) (fun h13 => ?_) (fun h13 => ?_)
  · have hf := hs_tt h13 hf
    refine lv_ldc hx hb hown (hts _ lkX7_board_0) dX7_board_102 ?_
    obtain ⟨rfl, rfl⟩ := hs_ri hf
    exact hs_iret hx hb hr hlk hB hS dX7_board_104
  · have hf := hs_ff h13 hf
    refine lv_aload_n hx hb dX7_board_68 rfl (lv_at hl 0 rfl) ?_
    refine lv_iload hx hb dX7_board_69 (lv_at hl 4 rfl) ?_
    refine lv_iload_n hx hb dX7_board_71 rfl (lv_at hl 3 rfl) ?_
    obtain ⟨_, h16, hf⟩ := hs_bi hf
    obtain ⟨v17, σ15, h14, hf⟩ := hs_b2i hf
    refine hs_call0 (va_runV (As := [.int x4, .int x3]) (rest := []) ⟨hx, hb, hml, hown, hts⟩ (ctX7_placeOnBoard l fu σ x0 x4 x3 X ad H.size _ _ h14) (cwV 2 hts gX7_board_X7_placeOnBoard rfl rfl rfl (by decide +kernel) ⟨Nat.le_of_ble_eq_true rfl, Nat.le_of_ble_eq_true rfl⟩) (hs_preV (hs_recv hK hB (hs_ck_i h16) (by decide) rfl) hV hB hS hA0 hA hem) rfl rfl hl.1 rfl (lv_room (Nat.le_of_ble_eq_true rfl)) dX7_board_72 ⟨Nat.le_of_ble_eq_true rfl, Nat.le_of_ble_eq_true rfl⟩) hB hS hA rfl (fun H locs hB hS => ?_)
    refine lv_iload_n hx hb dX7_board_75 rfl (lv_at hl 1 rfl) ?_
    refine lv_icmp_ne (tgt := 96) hx hb dX7_board_76 (by decide) (fun h18 => ?_) (fun h18 => ?_)
    · have hf := hs_ff h18 hf
      refine lv_iinc (v := (x4 + 1)) (lv' := [(4, .int (x4 + 1)), (0, .ref (ad x0)), (1, .int x1), (2, .int x2), (3, .int x3)]) hx hb dX7_board_96 hl (k := 4) rfl rfl (by decide) rfl (fun ls hl => ?_)
      refine lv_goto (tgt := 62) hx hb dX7_board_99 (by decide) ?_
      exact hk62 σ15 x0 x1 x2 x3 (x4 + 1) _ _ _ hf hB hS (lv_sub hl [1, 2, 3, 4, 0] rfl)
    · have hf := hs_tt h18 hf
      refine lv_iload_n hx hb dX7_board_79 rfl (lv_at hl 2 rfl) ?_
      refine lv_if_ne (tgt := 88) hx hb dX7_board_80 (by decide) (fun h19 => ?_) (fun h19 => ?_)
      · have hf := hs_ff h19 hf
        refine lv_aload_n hx hb dX7_board_88 rfl (lv_at hl 0 rfl) ?_
        obtain ⟨n21, h20, hf⟩ := hs_bi hf
        refine x_getN hx hb hts inX7_board_X7 hown hK hB (by decide) rfl (k := 7) (by decide) rfl h20 (hts _ lkX7_board_1) (fun _ h9 => h9) dX7_board_89 ?_
        refine lv_iload hx hb dX7_board_92 (lv_at hl 4 rfl) ?_
        obtain ⟨v22, h23, hf⟩ := hs_bi hf
        refine x_iald hx hb hK hB h23 dX7_board_94 ?_
        obtain ⟨rfl, rfl⟩ := hs_ri hf
        exact hs_iret hx hb hr hlk hB hS dX7_board_95
      · have hf := hs_tt h19 hf
        refine lv_iload hx hb dX7_board_83 (lv_at hl 4 rfl) ?_
        refine lv_goto (tgt := 95) hx hb dX7_board_85 (by decide) ?_
        obtain ⟨rfl, rfl⟩ := hs_ri hf
        exact hs_iret hx hb hr hlk hB hS dX7_board_95
set_option maxRecDepth 100000 in
set_option maxHeartbeats 4000000 in
theorem wX7_board_62 (fu : Nat) (C : hs_Cx p s m args meth c X A yX7_board cX7_board 5 (some .int) wsX7_board) (hem : ad hs_em = X.2.2.1.2.2.2)  {H : Heap} {locs : List Loc} {ls : Array Slot} (σ : hs_T) (x0 : Nat) (x1 : Int32) (x2 : Int32) (x3 : Int32) (x4 : Int32) (hf : fX7_board_62 fu  σ x0 x1 x2 x3 x4 = some (r, τ)) (hB : hs_H X.1 X.2.1 ad A σ H) (hS : va_S A s.heap H locs) (hl : lv_has ls 5 [(0, .ref (ad x0)), (1, .int x1), (2, .int x2), (3, .int x3), (4, .int x4)]) : W p l e rmX7_board s m args below meth c H locs 0 0 (MQ below (hs_Q0 hs_tvi X ad A r τ) args s 0 0 A) (F0 m 62 ls []) := by
  unfold fX7_board_62 at hf
  exact hs_lp_i (P := fun a => ∀ (H : Heap) (locs : List Loc) (ls : Array Slot), hs_H X.1 X.2.1 ad A a.1 H → va_S A s.heap H locs → lv_has ls 5 [(0, .ref (ad a.2.1)), (1, .int a.2.2.1), (2, .int a.2.2.2.1), (3, .int a.2.2.2.2.1), (4, .int a.2.2.2.2.2)] → W p l e rmX7_board s m args below meth c H locs 0 0 (MQ below (hs_Q0 hs_tvi X ad A r τ) args s 0 0 A) (F0 m 62 ls [])) (fun k a hk hf H locs ls hB hS hl => wX7_board_62b fu C hem  _ (fun σ x0 x1 x2 x3 x4 H locs ls hf hB hS hl => hk (σ, x0, x1, x2, x3, x4) hf H locs ls hB hS hl) a.1 a.2.1 a.2.2.1 a.2.2.2.1 a.2.2.2.2.1 a.2.2.2.2.2 hf hB hS hl) fu (σ, x0, x1, x2, x3, x4) hf H locs ls hB hS hl
set_option maxRecDepth 100000 in
set_option maxHeartbeats 4000000 in
theorem wX7_board_28b (fu : Nat) (C : hs_Cx p s m args meth c X A yX7_board cX7_board 5 (some .int) wsX7_board) (hem : ad hs_em = X.2.2.1.2.2.2)  (k28 : hs_T → Nat → Int32 → Int32 → Int32 → Int32 → Option (Int32 × hs_T)) (hk28 : ∀ (σ : hs_T) (x0 : Nat) (x1 : Int32) (x2 : Int32) (x3 : Int32) (x4 : Int32) (H : Heap) (locs : List Loc) (ls : Array Slot), k28 σ x0 x1 x2 x3 x4 = some (r, τ) → hs_H X.1 X.2.1 ad A σ H → va_S A s.heap H locs → lv_has ls 5 [(0, .ref (ad x0)), (1, .int x1), (2, .int x2), (3, .int x3), (4, .int x4)] → W p l e rmX7_board s m args below meth c H locs 0 0 (MQ below (hs_Q0 hs_tvi X ad A r τ) args s 0 0 A) (F0 m 28 ls [])) {H : Heap} {locs : List Loc} {ls : Array Slot} (σ : hs_T) (x0 : Nat) (x1 : Int32) (x2 : Int32) (x3 : Int32) (x4 : Int32) (hf : fX7_board_28b fu  k28 σ x0 x1 x2 x3 x4 = some (r, τ)) (hB : hs_H X.1 X.2.1 ad A σ H) (hS : va_S A s.heap H locs) (hl : lv_has ls 5 [(0, .ref (ad x0)), (1, .int x1), (2, .int x2), (3, .int x3), (4, .int x4)]) : W p l e rmX7_board s m args below meth c H locs 0 0 (MQ below (hs_Q0 hs_tvi X ad A r τ) args s 0 0 A) (F0 m 28 ls []) := by
  obtain ⟨hx, hb, hml, hr, hts, hown, hlk, hnm, hV, hA0, hA⟩ := id C
  have hown : s.vm.findClass RX7 = some m.cls := hown
  have hK := hV.1
  have hNw := hV.2.1
  unfold fX7_board_28b at hf
  refine lv_iload hx hb dX7_board_28 (lv_at hl 4 rfl) ?_
  refine lv_iload_n hx hb dX7_board_30 rfl (lv_at hl 3 rfl) ?_
  refine lv_icmp_ge (tgt := 59) hx hb dX7_board_31 (by decide) (fun h12 => ?_) (fun h12 => ?_)
  · have hf := hs_tt h12 hf
    refine lv_iconst (v := 0) hx hb dX7_board_59 (by decide) ?_
    refine lv_istore (lv' := [(4, .int 0), (0, .ref (ad x0)), (1, .int x1), (2, .int x2), (3, .int x3)]) hx hb dX7_board_60 hl (by decide) rfl (fun ls hl => ?_)
    exact wX7_board_62 fu C hem σ x0 x1 x2 x3 0 hf hB hS (lv_sub hl [1, 2, 3, 4, 0] rfl)
  · have hf := hs_ff h12 hf
    refine lv_aload_n hx hb dX7_board_34 rfl (lv_at hl 0 rfl) ?_
    obtain ⟨n25, h24, hf⟩ := hs_bi hf
    refine x_getN hx hb hts inX7_board_X7 hown hK hB (by decide) rfl (k := 7) (by decide) rfl h24 (hts _ lkX7_board_1) (fun _ h9 => h9) dX7_board_35 ?_
    refine lv_iload hx hb dX7_board_38 (lv_at hl 4 rfl) ?_
    refine lv_aload_n hx hb dX7_board_40 rfl (lv_at hl 0 rfl) ?_
    refine lv_iload hx hb dX7_board_41 (lv_at hl 4 rfl) ?_
    refine lv_aload_n hx hb dX7_board_43 rfl (lv_at hl 0 rfl) ?_
    obtain ⟨n27, h26, hf⟩ := hs_bi hf
    refine x_getN hx hb hts inX7_board_X7 hown hK hB (by decide) rfl (k := 0) (by decide) rfl h26 (hts _ lkX7_board_2) (fun _ h9 => h9) dX7_board_44 ?_
    refine lv_iconst (v := 3) hx hb dX7_board_47 (by decide) ?_
    obtain ⟨v28, h29, hf⟩ := hs_bi hf
    refine x_iald hx hb hK hB h29 dX7_board_48 ?_
    obtain ⟨_, h32, hf⟩ := hs_bi hf
    obtain ⟨v33, σ31, h30, hf⟩ := hs_b2i hf
    refine hs_call0 (va_runV (As := [.int x4, .int v28]) (rest := [.int x4, .ref (ad n25)]) ⟨hx, hb, hml, hown, hts⟩ (ctX7_pointsAhead l fu σ x0 x4 v28 X ad H.size _ _ h30) (cwV 2 hts gX7_board_X7_pointsAhead rfl rfl rfl (by decide +kernel) ⟨Nat.le_of_ble_eq_true rfl, Nat.le_of_ble_eq_true rfl⟩) (hs_preV (hs_recv hK hB (hs_ck_i h32) (by decide) rfl) hV hB hS hA0 hA hem) rfl rfl hl.1 rfl (lv_room (Nat.le_of_ble_eq_true rfl)) dX7_board_49 ⟨Nat.le_of_ble_eq_true rfl, Nat.le_of_ble_eq_true rfl⟩) hB hS hA rfl (fun H locs hB hS => ?_)
    obtain ⟨σ34, h35, hf⟩ := hs_bi hf
    refine x_iast hx hb hK hB hS h35 dX7_board_52 (fun H locs hB hS => ?_)
    refine lv_iinc (v := (x4 + 1)) (lv' := [(4, .int (x4 + 1)), (0, .ref (ad x0)), (1, .int x1), (2, .int x2), (3, .int x3)]) hx hb dX7_board_53 hl (k := 4) rfl rfl (by decide) rfl (fun ls hl => ?_)
    refine lv_goto (tgt := 28) hx hb dX7_board_56 (by decide) ?_
    exact hk28 σ34 x0 x1 x2 x3 (x4 + 1) _ _ _ hf hB hS (lv_sub hl [1, 2, 3, 4, 0] rfl)
set_option maxRecDepth 100000 in
set_option maxHeartbeats 4000000 in
theorem wX7_board_28 (fu : Nat) (C : hs_Cx p s m args meth c X A yX7_board cX7_board 5 (some .int) wsX7_board) (hem : ad hs_em = X.2.2.1.2.2.2)  {H : Heap} {locs : List Loc} {ls : Array Slot} (σ : hs_T) (x0 : Nat) (x1 : Int32) (x2 : Int32) (x3 : Int32) (x4 : Int32) (hf : fX7_board_28 fu  σ x0 x1 x2 x3 x4 = some (r, τ)) (hB : hs_H X.1 X.2.1 ad A σ H) (hS : va_S A s.heap H locs) (hl : lv_has ls 5 [(0, .ref (ad x0)), (1, .int x1), (2, .int x2), (3, .int x3), (4, .int x4)]) : W p l e rmX7_board s m args below meth c H locs 0 0 (MQ below (hs_Q0 hs_tvi X ad A r τ) args s 0 0 A) (F0 m 28 ls []) := by
  unfold fX7_board_28 at hf
  exact hs_lp_i (P := fun a => ∀ (H : Heap) (locs : List Loc) (ls : Array Slot), hs_H X.1 X.2.1 ad A a.1 H → va_S A s.heap H locs → lv_has ls 5 [(0, .ref (ad a.2.1)), (1, .int a.2.2.1), (2, .int a.2.2.2.1), (3, .int a.2.2.2.2.1), (4, .int a.2.2.2.2.2)] → W p l e rmX7_board s m args below meth c H locs 0 0 (MQ below (hs_Q0 hs_tvi X ad A r τ) args s 0 0 A) (F0 m 28 ls [])) (fun k a hk hf H locs ls hB hS hl => wX7_board_28b fu C hem  _ (fun σ x0 x1 x2 x3 x4 H locs ls hf hB hS hl => hk (σ, x0, x1, x2, x3, x4) hf H locs ls hB hS hl) a.1 a.2.1 a.2.2.1 a.2.2.2.1 a.2.2.2.2.1 a.2.2.2.2.2 hf hB hS hl) fu (σ, x0, x1, x2, x3, x4) hf H locs ls hB hS hl
set_option maxRecDepth 100000 in
set_option maxHeartbeats 4000000 in
theorem wX7_board_e (fu : Nat) (C : hs_Cx p s m args meth c X A yX7_board cX7_board 5 (some .int) wsX7_board) (hem : ad hs_em = X.2.2.1.2.2.2) {H : Heap} {locs : List Loc} {ls : Array Slot} (σ : hs_T) (o : Nat) (a1 : Int32) (a2 : Int32) (hf : fX7_board fu σ o a1 a2 = some (r, τ)) (hB : hs_H X.1 X.2.1 ad A σ H) (hS : va_S A s.heap H locs) (hl : lv_has ls 5 [(0, .ref (ad o)), (1, .int a1), (2, .int a2)]) : W p l e rmX7_board s m args below meth c H locs 0 0 (MQ below (hs_Q0 hs_tvi X ad A r τ) args s 0 0 A) (F0 m 0 ls []) := by
  obtain ⟨hx, hb, hml, hr, hts, hown, hlk, hnm, hV, hA0, hA⟩ := id C
  have hown : s.vm.findClass RX7 = some m.cls := hown
  have hK := hV.1
  have hNw := hV.2.1
  unfold fX7_board at hf
  refine lv_aload_n hx hb dX7_board_0 rfl (lv_at hl 0 rfl) ?_
  refine lv_iload_n hx hb dX7_board_1 rfl (lv_at hl 1 rfl) ?_
  obtain ⟨_, h3, hf⟩ := hs_bi hf
  obtain ⟨v4, σ2, h1, hf⟩ := hs_b2i hf
  refine hs_call0 (va_runV (As := [.int a1]) (rest := []) ⟨hx, hb, hml, hown, hts⟩ (ctX7_isTeam l fu σ o a1 X ad H.size _ _ h1) (cwV 1 hts gX7_board_X7_isTeam rfl rfl rfl (by decide +kernel) ⟨Nat.le_of_ble_eq_true rfl, Nat.le_of_ble_eq_true rfl⟩) (hs_preV (hs_recv hK hB (hs_ck_i h3) (by decide) rfl) hV hB hS hA0 hA hem) rfl rfl hl.1 rfl (lv_room (Nat.le_of_ble_eq_true rfl)) dX7_board_2 ⟨Nat.le_of_ble_eq_true rfl, Nat.le_of_ble_eq_true rfl⟩) hB hS hA rfl (fun H locs hB hS => ?_)
  refine lv_if_eq (tgt := 17) hx hb dX7_board_5 (by decide) (fun h5 => ?_) (fun h5 => ?_)
  · have hf := hs_tt h5 hf
    exact wX7_board_17 fu C hem σ2  hf hB hS (lv_sub hl [] rfl)
  · have hf := hs_ff h5 hf
    refine lv_iload_n hx hb dX7_board_8 rfl (lv_at hl 2 rfl) ?_
    refine lv_if_lt (tgt := 17) hx hb dX7_board_9 (by decide) (fun h6 => ?_) (fun h6 => ?_)
    · have hf := hs_tt h6 hf
      exact wX7_board_17 fu C hem σ2  hf hB hS (lv_sub hl [] rfl)
    · have hf := hs_ff h6 hf
      refine lv_iload_n hx hb dX7_board_12 rfl (lv_at hl 2 rfl) ?_
      refine lv_iconst (v := 1) hx hb dX7_board_13 (by decide) ?_
      refine lv_icmp_le (tgt := 20) hx hb dX7_board_14 (by decide) (fun h7 => ?_) (fun h7 => ?_)
      · have hf := hs_tt h7 hf
        refine lv_aload_n hx hb dX7_board_20 rfl (lv_at hl 0 rfl) ?_
        obtain ⟨_, h10, hf⟩ := hs_bi hf
        obtain ⟨v11, σ9, h8, hf⟩ := hs_b2i hf
        refine hs_call0 (va_runV (As := []) (rest := []) ⟨hx, hb, hml, hown, hts⟩ (ctX7_teams l fu σ2 o X ad H.size _ _ h8) (cwV 0 hts gX7_board_X7_teams rfl rfl rfl (by decide +kernel) ⟨Nat.le_of_ble_eq_true rfl, Nat.le_of_ble_eq_true rfl⟩) (hs_preV (hs_recv hK hB (hs_ck_i h10) (by decide) rfl) hV hB hS hA0 hA hem) rfl rfl hl.1 rfl (lv_room (Nat.le_of_ble_eq_true rfl)) dX7_board_21 ⟨Nat.le_of_ble_eq_true rfl, Nat.le_of_ble_eq_true rfl⟩) hB hS hA rfl (fun H locs hB hS => ?_)
        refine lv_istore_n (lv' := [(3, .int v11), (0, .ref (ad o)), (1, .int a1), (2, .int a2)]) hx hb dX7_board_24 rfl hl (by decide) rfl (fun ls hl => ?_)
        refine lv_iconst (v := 0) hx hb dX7_board_25 (by decide) ?_
        refine lv_istore (lv' := [(4, .int 0), (3, .int v11), (0, .ref (ad o)), (1, .int a1), (2, .int a2)]) hx hb dX7_board_26 hl (by decide) rfl (fun ls hl => ?_)
        exact wX7_board_28 fu C hem σ9 o a1 a2 v11 0 hf hB hS (lv_sub hl [2, 3, 4, 1, 0] rfl)
      · have hf := hs_ff h7 hf
        exact wX7_board_17 fu C hem σ2  hf hB hS (lv_sub hl [] rfl)
end SX7_board
set_option maxRecDepth 100000 in
theorem ctX7_board (l : Launch) (fu : Nat) (σ : hs_T) (o : Nat) (a1 : Int32) (a2 : Int32) : hs_C0 hs_tvi l yX7_board wsX7_board rmX7_board (fun ad => [.ref (ad o), .int a1, .int a2]) σ (fX7_board fu σ o a1 a2) := by
  intro X ad sz r τ hf
  refine hs_enter (cc := cX7_board) (maxL := 5) (ret := (some .int)) (by decide) rfl (Nat.le_of_ble_eq_true rfl) ?_
  intro p e s m below meth c ls C hl hem hB hS hsz
  exact wX7_board_e fu C hem σ o a1 a2 hf hB hS hl
/-! ServiceGame.gainFromFlag(LServiceGame$Service;I)I -/
abbrev rmX7_gainFromFlag : Room := { frames := 2, cells := 0, slots := 0, locals := 48 }
theorem inX7_gainFromFlag_X7 : ∀ w ∈ wsX70, w ∈ wsX7_gainFromFlag := fun _ h => List.mem_cons_of_mem _ (List.mem_append_left _ (List.mem_append_right _ h))
theorem lkX7_gainFromFlag_0 : Cond.fieldLink RX7 54 "ServiceGame" "rounds" "I" ∈ wsX7_gainFromFlag := by decide +kernel
theorem lkX7_gainFromFlag_1 : Cond.initialized RX5 ∈ wsX7_gainFromFlag := by decide +kernel
theorem lkX7_gainFromFlag_2 : Cond.instanceMethod yX5_takers ∈ wsX7_gainFromFlag := by decide +kernel
theorem lkX7_gainFromFlag_3 : Cond.selects RX5 yX5_takers yX5_takers ∈ wsX7_gainFromFlag := by decide +kernel
theorem lkX7_gainFromFlag_4 : Cond.instanceMethod yX5_isTaken ∈ wsX7_gainFromFlag := by decide +kernel
theorem lkX7_gainFromFlag_5 : Cond.selects RX5 yX5_isTaken yX5_isTaken ∈ wsX7_gainFromFlag := by decide +kernel
def fX7_gainFromFlag_30b (fu : Nat)  (k30 : hs_T → Nat → Int32 → Int32 → Int32 → Int32 → Int32 → Int32 → Option (Int32 × hs_T)) (σ : hs_T) (x1 : Nat) (x2 : Int32) (x3 : Int32) (x4 : Int32) (x5 : Int32) (x6 : Int32) (x7 : Int32) : Option (Int32 × hs_T) :=
 if 5 ≤ x7 then
 (hs_b2 (fX7_share fu σ ((x4 + x5) - x6)) fun v13 σ12 =>
 hs_b2 (fX7_share fu σ12 x4) fun v16 σ15 =>
 some ((((x5 * v13) - (4 * ((x4 + x5) - x6))) - ((x6 * v16) - (4 * x4))), σ15))
 else
 (if ((x2 >>> (x7 &&& 31)) &&& 1) = 1 then
 ((hs_ck σ 7 x1).bind fun _ =>
 hs_b2 (fX5_isTaken fu σ x1 x7 x3 100) fun v21 σ19 =>
 if v21 = 0 then
 (k30 σ19 x1 x2 x3 x4 x5 x6 (x7 + 1))
 else
 (k30 σ19 x1 x2 x3 x4 x5 (x6 + 1) (x7 + 1)))
 else
 (k30 σ x1 x2 x3 x4 x5 x6 (x7 + 1)))
def fX7_gainFromFlag_30 (fu : Nat)  (σ : hs_T) (x1 : Nat) (x2 : Int32) (x3 : Int32) (x4 : Int32) (x5 : Int32) (x6 : Int32) (x7 : Int32) : Option (Int32 × hs_T) :=
   hs_lp (fun (k : hs_T × Nat × Int32 × Int32 × Int32 × Int32 × Int32 × Int32 → Option (Int32 × hs_T)) (a : hs_T × Nat × Int32 × Int32 × Int32 × Int32 × Int32 × Int32) => fX7_gainFromFlag_30b fu  (fun σ x1 x2 x3 x4 x5 x6 x7 => k (σ, x1, x2, x3, x4, x5, x6, x7)) a.1 a.2.1 a.2.2.1 a.2.2.2.1 a.2.2.2.2.1 a.2.2.2.2.2.1 a.2.2.2.2.2.2.1 a.2.2.2.2.2.2.2) fu (σ, x1, x2, x3, x4, x5, x6, x7)
def fX7_gainFromFlag (fu : Nat) (σ : hs_T) (o : Nat) (a1 : Nat) (a2 : Int32) : Option (Int32 × hs_T) :=
 (hs_gI σ 9 o 8).bind fun v2 =>
 (hs_ck σ 7 a1).bind fun _ =>
 hs_b2 (fX5_takers fu σ a1 (v2 - 1) 100) fun v6 σ4 =>
 hs_b2 (fJ6_bitCount_0f7a4 fu σ4 a2) fun v9 σ8 =>
 fX7_gainFromFlag_30 fu σ8 a1 a2 (v2 - 1) v6 (v9 - 1) 0 0
section SX7_gainFromFlag
variable {p : Program} {l : Launch} {e : Env} {s : State} {m : MethodId} {args : Array Value} {below : List Frame} {meth : Method} {c : Code} {X : hs_X} {ad : Nat → Nat} {A : Nat → Prop} {r : Int32} {τ : hs_T}
set_option maxRecDepth 100000 in
set_option maxHeartbeats 4000000 in
theorem wX7_gainFromFlag_30b (fu : Nat) (C : hs_Cx p s m args meth c X A yX7_gainFromFlag cX7_gainFromFlag 10 (some .int) wsX7_gainFromFlag) (hem : ad hs_em = X.2.2.1.2.2.2)  (k30 : hs_T → Nat → Int32 → Int32 → Int32 → Int32 → Int32 → Int32 → Option (Int32 × hs_T)) (hk30 : ∀ (σ : hs_T) (x1 : Nat) (x2 : Int32) (x3 : Int32) (x4 : Int32) (x5 : Int32) (x6 : Int32) (x7 : Int32) (H : Heap) (locs : List Loc) (ls : Array Slot), k30 σ x1 x2 x3 x4 x5 x6 x7 = some (r, τ) → hs_H X.1 X.2.1 ad A σ H → va_S A s.heap H locs → lv_has ls 10 [(1, .ref (ad x1)), (2, .int x2), (3, .int x3), (4, .int x4), (5, .int x5), (6, .int x6), (7, .int x7)] → W p l e rmX7_gainFromFlag s m args below meth c H locs 0 0 (MQ below (hs_Q0 hs_tvi X ad A r τ) args s 0 0 A) (F0 m 30 ls [])) {H : Heap} {locs : List Loc} {ls : Array Slot} (σ : hs_T) (x1 : Nat) (x2 : Int32) (x3 : Int32) (x4 : Int32) (x5 : Int32) (x6 : Int32) (x7 : Int32) (hf : fX7_gainFromFlag_30b fu  k30 σ x1 x2 x3 x4 x5 x6 x7 = some (r, τ)) (hB : hs_H X.1 X.2.1 ad A σ H) (hS : va_S A s.heap H locs) (hl : lv_has ls 10 [(1, .ref (ad x1)), (2, .int x2), (3, .int x3), (4, .int x4), (5, .int x5), (6, .int x6), (7, .int x7)]) : W p l e rmX7_gainFromFlag s m args below meth c H locs 0 0 (MQ below (hs_Q0 hs_tvi X ad A r τ) args s 0 0 A) (F0 m 30 ls []) := by
  obtain ⟨hx, hb, hml, hr, hts, hown, hlk, hnm, hV, hA0, hA⟩ := id C
  have hown : s.vm.findClass RX7 = some m.cls := hown
  have hK := hV.1
  have hNw := hV.2.1
  unfold fX7_gainFromFlag_30b at hf
  refine lv_iload hx hb dX7_gainFromFlag_30 (lv_at hl 6 rfl) ?_
  refine lv_iconst (v := 5) hx hb dX7_gainFromFlag_32 (by decide) ?_
  refine lv_icmp_ge (tgt := 67) hx hb dX7_gainFromFlag_33 (by decide) (fun h10 => ?_) (fun h10 => ?_)
  · have hf := hs_tt h10 hf
    refine lv_iload hx hb dX7_gainFromFlag_67 (lv_at hl 3 rfl) ?_
    refine lv_iload hx hb dX7_gainFromFlag_69 (lv_at hl 4 rfl) ?_
    refine lv_iadd hx hb dX7_gainFromFlag_71 ?_
    refine lv_iload hx hb dX7_gainFromFlag_72 (lv_at hl 5 rfl) ?_
    refine lv_isub hx hb dX7_gainFromFlag_74 ?_
    refine lv_istore (lv' := [(7, .int ((x4 + x5) - x6)), (1, .ref (ad x1)), (2, .int x2), (3, .int x3), (4, .int x4), (5, .int x5), (6, .int x6)]) hx hb dX7_gainFromFlag_75 hl (by decide) rfl (fun ls hl => ?_)
    refine lv_iload hx hb dX7_gainFromFlag_77 (lv_at hl 5 rfl) ?_
    refine lv_iload hx hb dX7_gainFromFlag_79 (lv_at hl 0 rfl) ?_
    obtain ⟨v13, σ12, h11, hf⟩ := hs_b2i hf
    refine hs_call0 (va_runS (As := [.int ((x4 + x5) - x6)]) (rest := [.int x5]) ⟨hx, hb, hml, hown, hts⟩ (ctX7_share l fu σ ((x4 + x5) - x6) X ad H.size _ _ h11) (va_cwS 1 hts gX7_gainFromFlag_X7_share rfl rfl rfl (by decide +kernel) ⟨Nat.le_of_ble_eq_true rfl, Nat.le_of_ble_eq_true rfl⟩) (hs_pre hV hB hS hA0 hA hem) rfl rfl hl.1 rfl (lv_room (Nat.le_of_ble_eq_true rfl)) dX7_gainFromFlag_81 ⟨Nat.le_of_ble_eq_true rfl, Nat.le_of_ble_eq_true rfl⟩) hB hS hA rfl (fun H locs hB hS => ?_)
    refine lv_imul hx hb dX7_gainFromFlag_84 ?_
    refine lv_iconst (v := 4) hx hb dX7_gainFromFlag_85 (by decide) ?_
    refine lv_iload hx hb dX7_gainFromFlag_86 (lv_at hl 0 rfl) ?_
    refine lv_imul hx hb dX7_gainFromFlag_88 ?_
    refine lv_isub hx hb dX7_gainFromFlag_89 ?_
    refine lv_istore (lv' := [(8, .int ((x5 * v13) - (4 * ((x4 + x5) - x6)))), (7, .int ((x4 + x5) - x6)), (1, .ref (ad x1)), (2, .int x2), (3, .int x3), (4, .int x4), (5, .int x5), (6, .int x6)]) hx hb dX7_gainFromFlag_90 hl (by decide) rfl (fun ls hl => ?_)
    refine lv_iload hx hb dX7_gainFromFlag_92 (lv_at hl 7 rfl) ?_
    refine lv_iload hx hb dX7_gainFromFlag_94 (lv_at hl 5 rfl) ?_
    obtain ⟨v16, σ15, h14, hf⟩ := hs_b2i hf
    refine hs_call0 (va_runS (As := [.int x4]) (rest := [.int x6]) ⟨hx, hb, hml, hown, hts⟩ (ctX7_share l fu σ12 x4 X ad H.size _ _ h14) (va_cwS 1 hts gX7_gainFromFlag_X7_share rfl rfl rfl (by decide +kernel) ⟨Nat.le_of_ble_eq_true rfl, Nat.le_of_ble_eq_true rfl⟩) (hs_pre hV hB hS hA0 hA hem) rfl rfl hl.1 rfl (lv_room (Nat.le_of_ble_eq_true rfl)) dX7_gainFromFlag_96 ⟨Nat.le_of_ble_eq_true rfl, Nat.le_of_ble_eq_true rfl⟩) hB hS hA rfl (fun H locs hB hS => ?_)
    refine lv_imul hx hb dX7_gainFromFlag_99 ?_
    refine lv_iconst (v := 4) hx hb dX7_gainFromFlag_100 (by decide) ?_
    refine lv_iload hx hb dX7_gainFromFlag_101 (lv_at hl 5 rfl) ?_
    refine lv_imul hx hb dX7_gainFromFlag_103 ?_
    refine lv_isub hx hb dX7_gainFromFlag_104 ?_
    refine lv_istore (lv' := [(9, .int ((x6 * v16) - (4 * x4))), (8, .int ((x5 * v13) - (4 * ((x4 + x5) - x6)))), (7, .int ((x4 + x5) - x6)), (1, .ref (ad x1)), (2, .int x2), (3, .int x3), (4, .int x4), (5, .int x5), (6, .int x6)]) hx hb dX7_gainFromFlag_105 hl (by decide) rfl (fun ls hl => ?_)
    refine lv_iload hx hb dX7_gainFromFlag_107 (lv_at hl 1 rfl) ?_
    refine lv_iload hx hb dX7_gainFromFlag_109 (lv_at hl 0 rfl) ?_
    refine lv_isub hx hb dX7_gainFromFlag_111 ?_
    obtain ⟨rfl, rfl⟩ := hs_ri hf
    exact hs_iret hx hb hr hlk hB hS dX7_gainFromFlag_112
  · have hf := hs_ff h10 hf
    refine lv_iload_n hx hb dX7_gainFromFlag_36 rfl (lv_at hl 1 rfl) ?_
    refine lv_iload hx hb dX7_gainFromFlag_37 (lv_at hl 6 rfl) ?_
    refine lv_ishr hx hb dX7_gainFromFlag_39 ?_
    refine lv_iconst (v := 1) hx hb dX7_gainFromFlag_40 (by decide) ?_
    refine lv_iand hx hb dX7_gainFromFlag_41 ?_
    refine lv_iconst (v := 1) hx hb dX7_gainFromFlag_42 (by decide) ?_
    refine lv_icmp_ne (tgt := 61) hx hb dX7_gainFromFlag_43 (by decide) (fun h17 => ?_) (fun h17 => ?_)
    · have hf := hs_ff h17 hf
      refine lv_iinc (v := (x7 + 1)) (lv' := [(7, .int (x7 + 1)), (1, .ref (ad x1)), (2, .int x2), (3, .int x3), (4, .int x4), (5, .int x5), (6, .int x6)]) hx hb dX7_gainFromFlag_61 hl (k := 6) rfl rfl (by decide) rfl (fun ls hl => ?_)
      refine lv_goto (tgt := 30) hx hb dX7_gainFromFlag_64 (by decide) ?_
      exact hk30 σ x1 x2 x3 x4 x5 x6 (x7 + 1) _ _ _ hf hB hS (lv_sub hl [1, 2, 3, 4, 5, 6, 0] rfl)
    · have hf := hs_tt h17 hf
      refine lv_aload_n hx hb dX7_gainFromFlag_46 rfl (lv_at hl 0 rfl) ?_
      refine lv_iload hx hb dX7_gainFromFlag_47 (lv_at hl 6 rfl) ?_
      refine lv_iload_n hx hb dX7_gainFromFlag_49 rfl (lv_at hl 2 rfl) ?_
      refine lv_bipush (v := 100) hx hb dX7_gainFromFlag_50 (by decide) ?_
      obtain ⟨_, h20, hf⟩ := hs_bi hf
      obtain ⟨v21, σ19, h18, hf⟩ := hs_b2i hf
      refine hs_call0 (va_runVN (As := [.int x7, .int x3, .int 100]) (rest := []) ⟨hx, hb, hml, hown, hts⟩ (ctX5_isTaken l fu σ x1 x7 x3 100 X ad H.size _ _ h18) ⟨va_cnB 3 hts gX7_gainFromFlag_X5_isTaken_n254 rfl rfl rfl (hNw (.methodLinkNest "ServiceGame" 254 yX5_isTaken "ServiceGame") (by decide +kernel)) (hts _ lkX7_gainFromFlag_1) (by decide +kernel) ⟨Nat.le_of_ble_eq_true rfl, Nat.le_of_ble_eq_true rfl⟩, (hts _ lkX7_gainFromFlag_4), (hts _ lkX7_gainFromFlag_5)⟩ (hs_preV (hs_recv hK hB (hs_ck_i h20) (by decide) rfl) hV hB hS hA0 hA hem) rfl rfl hl.1 rfl (lv_room (Nat.le_of_ble_eq_true rfl)) dX7_gainFromFlag_52 ⟨Nat.le_of_ble_eq_true rfl, Nat.le_of_ble_eq_true rfl⟩) hB hS hA rfl (fun H locs hB hS => ?_)
      refine lv_if_eq (tgt := 61) hx hb dX7_gainFromFlag_55 (by decide) (fun h22 => ?_) (fun h22 => ?_)
      · have hf := hs_tt h22 hf
        refine lv_iinc (v := (x7 + 1)) (lv' := [(7, .int (x7 + 1)), (1, .ref (ad x1)), (2, .int x2), (3, .int x3), (4, .int x4), (5, .int x5), (6, .int x6)]) hx hb dX7_gainFromFlag_61 hl (k := 6) rfl rfl (by decide) rfl (fun ls hl => ?_)
        refine lv_goto (tgt := 30) hx hb dX7_gainFromFlag_64 (by decide) ?_
        exact hk30 σ19 x1 x2 x3 x4 x5 x6 (x7 + 1) _ _ _ hf hB hS (lv_sub hl [1, 2, 3, 4, 5, 6, 0] rfl)
      · have hf := hs_ff h22 hf
        refine lv_iinc (v := (x6 + 1)) (lv' := [(6, .int (x6 + 1)), (1, .ref (ad x1)), (2, .int x2), (3, .int x3), (4, .int x4), (5, .int x5), (7, .int x7)]) hx hb dX7_gainFromFlag_58 hl (k := 5) rfl rfl (by decide) rfl (fun ls hl => ?_)
        refine lv_iinc (v := (x7 + 1)) (lv' := [(7, .int (x7 + 1)), (6, .int (x6 + 1)), (1, .ref (ad x1)), (2, .int x2), (3, .int x3), (4, .int x4), (5, .int x5)]) hx hb dX7_gainFromFlag_61 hl (k := 6) rfl rfl (by decide) rfl (fun ls hl => ?_)
        refine lv_goto (tgt := 30) hx hb dX7_gainFromFlag_64 (by decide) ?_
        exact hk30 σ19 x1 x2 x3 x4 x5 (x6 + 1) (x7 + 1) _ _ _ hf hB hS (lv_sub hl [2, 3, 4, 5, 6, 1, 0] rfl)
set_option maxRecDepth 100000 in
set_option maxHeartbeats 4000000 in
theorem wX7_gainFromFlag_30 (fu : Nat) (C : hs_Cx p s m args meth c X A yX7_gainFromFlag cX7_gainFromFlag 10 (some .int) wsX7_gainFromFlag) (hem : ad hs_em = X.2.2.1.2.2.2)  {H : Heap} {locs : List Loc} {ls : Array Slot} (σ : hs_T) (x1 : Nat) (x2 : Int32) (x3 : Int32) (x4 : Int32) (x5 : Int32) (x6 : Int32) (x7 : Int32) (hf : fX7_gainFromFlag_30 fu  σ x1 x2 x3 x4 x5 x6 x7 = some (r, τ)) (hB : hs_H X.1 X.2.1 ad A σ H) (hS : va_S A s.heap H locs) (hl : lv_has ls 10 [(1, .ref (ad x1)), (2, .int x2), (3, .int x3), (4, .int x4), (5, .int x5), (6, .int x6), (7, .int x7)]) : W p l e rmX7_gainFromFlag s m args below meth c H locs 0 0 (MQ below (hs_Q0 hs_tvi X ad A r τ) args s 0 0 A) (F0 m 30 ls []) := by
  unfold fX7_gainFromFlag_30 at hf
  exact hs_lp_i (P := fun a => ∀ (H : Heap) (locs : List Loc) (ls : Array Slot), hs_H X.1 X.2.1 ad A a.1 H → va_S A s.heap H locs → lv_has ls 10 [(1, .ref (ad a.2.1)), (2, .int a.2.2.1), (3, .int a.2.2.2.1), (4, .int a.2.2.2.2.1), (5, .int a.2.2.2.2.2.1), (6, .int a.2.2.2.2.2.2.1), (7, .int a.2.2.2.2.2.2.2)] → W p l e rmX7_gainFromFlag s m args below meth c H locs 0 0 (MQ below (hs_Q0 hs_tvi X ad A r τ) args s 0 0 A) (F0 m 30 ls [])) (fun k a hk hf H locs ls hB hS hl => wX7_gainFromFlag_30b fu C hem  _ (fun σ x1 x2 x3 x4 x5 x6 x7 H locs ls hf hB hS hl => hk (σ, x1, x2, x3, x4, x5, x6, x7) hf H locs ls hB hS hl) a.1 a.2.1 a.2.2.1 a.2.2.2.1 a.2.2.2.2.1 a.2.2.2.2.2.1 a.2.2.2.2.2.2.1 a.2.2.2.2.2.2.2 hf hB hS hl) fu (σ, x1, x2, x3, x4, x5, x6, x7) hf H locs ls hB hS hl
set_option maxRecDepth 100000 in
set_option maxHeartbeats 4000000 in
theorem wX7_gainFromFlag_e (fu : Nat) (C : hs_Cx p s m args meth c X A yX7_gainFromFlag cX7_gainFromFlag 10 (some .int) wsX7_gainFromFlag) (hem : ad hs_em = X.2.2.1.2.2.2) {H : Heap} {locs : List Loc} {ls : Array Slot} (σ : hs_T) (o : Nat) (a1 : Nat) (a2 : Int32) (hf : fX7_gainFromFlag fu σ o a1 a2 = some (r, τ)) (hB : hs_H X.1 X.2.1 ad A σ H) (hS : va_S A s.heap H locs) (hl : lv_has ls 10 [(0, .ref (ad o)), (1, .ref (ad a1)), (2, .int a2)]) : W p l e rmX7_gainFromFlag s m args below meth c H locs 0 0 (MQ below (hs_Q0 hs_tvi X ad A r τ) args s 0 0 A) (F0 m 0 ls []) := by
  obtain ⟨hx, hb, hml, hr, hts, hown, hlk, hnm, hV, hA0, hA⟩ := id C
  have hown : s.vm.findClass RX7 = some m.cls := hown
  have hK := hV.1
  have hNw := hV.2.1
  unfold fX7_gainFromFlag at hf
  refine lv_aload_n hx hb dX7_gainFromFlag_0 rfl (lv_at hl 0 rfl) ?_
  obtain ⟨v2, h1, hf⟩ := hs_bi hf
  refine x_getI hx hb hts inX7_gainFromFlag_X7 hown hK hB (by decide) rfl (k := 8) (by decide) rfl h1 (hts _ lkX7_gainFromFlag_0) (fun _ h9 => h9) dX7_gainFromFlag_1 ?_
  refine lv_iconst (v := 1) hx hb dX7_gainFromFlag_4 (by decide) ?_
  refine lv_isub hx hb dX7_gainFromFlag_5 ?_
  refine lv_istore_n (lv' := [(3, .int (v2 - 1)), (0, .ref (ad o)), (1, .ref (ad a1)), (2, .int a2)]) hx hb dX7_gainFromFlag_6 rfl hl (by decide) rfl (fun ls hl => ?_)
  refine lv_aload_n hx hb dX7_gainFromFlag_7 rfl (lv_at hl 2 rfl) ?_
  refine lv_iload_n hx hb dX7_gainFromFlag_8 rfl (lv_at hl 0 rfl) ?_
  refine lv_bipush (v := 100) hx hb dX7_gainFromFlag_9 (by decide) ?_
  obtain ⟨_, h5, hf⟩ := hs_bi hf
  obtain ⟨v6, σ4, h3, hf⟩ := hs_b2i hf
  refine hs_call0 (va_runVN (As := [.int (v2 - 1), .int 100]) (rest := []) ⟨hx, hb, hml, hown, hts⟩ (ctX5_takers l fu σ a1 (v2 - 1) 100 X ad H.size _ _ h3) ⟨va_cnB 2 hts gX7_gainFromFlag_X5_takers_n271 rfl rfl rfl (hNw (.methodLinkNest "ServiceGame" 271 yX5_takers "ServiceGame") (by decide +kernel)) (hts _ lkX7_gainFromFlag_1) (by decide +kernel) ⟨Nat.le_of_ble_eq_true rfl, Nat.le_of_ble_eq_true rfl⟩, (hts _ lkX7_gainFromFlag_2), (hts _ lkX7_gainFromFlag_3)⟩ (hs_preV (hs_recv hK hB (hs_ck_i h5) (by decide) rfl) hV hB hS hA0 hA hem) rfl rfl hl.1 rfl (lv_room (Nat.le_of_ble_eq_true rfl)) dX7_gainFromFlag_11 ⟨Nat.le_of_ble_eq_true rfl, Nat.le_of_ble_eq_true rfl⟩) hB hS hA rfl (fun H locs hB hS => ?_)
  refine lv_istore (lv' := [(4, .int v6), (3, .int (v2 - 1)), (0, .ref (ad o)), (1, .ref (ad a1)), (2, .int a2)]) hx hb dX7_gainFromFlag_14 hl (by decide) rfl (fun ls hl => ?_)
  refine lv_iload_n hx hb dX7_gainFromFlag_16 rfl (lv_at hl 4 rfl) ?_
  obtain ⟨v9, σ8, h7, hf⟩ := hs_b2i hf
  refine hs_call0 (va_runS (As := [.int a2]) (rest := []) ⟨hx, hb, hml, hown, hts⟩ (ctJ6_bitCount_0f7a4 l fu σ4 a2 X ad H.size _ _ h7) (va_cwS 1 hts gX7_gainFromFlag_J6_bitCount_0f7a4 rfl rfl rfl (by decide +kernel) ⟨Nat.le_of_ble_eq_true rfl, Nat.le_of_ble_eq_true rfl⟩) (hs_pre hV hB hS hA0 hA hem) rfl rfl hl.1 rfl (lv_room (Nat.le_of_ble_eq_true rfl)) dX7_gainFromFlag_17 ⟨Nat.le_of_ble_eq_true rfl, Nat.le_of_ble_eq_true rfl⟩) hB hS hA rfl (fun H locs hB hS => ?_)
  refine lv_iconst (v := 1) hx hb dX7_gainFromFlag_20 (by decide) ?_
  refine lv_isub hx hb dX7_gainFromFlag_21 ?_
  refine lv_istore (lv' := [(5, .int (v9 - 1)), (4, .int v6), (3, .int (v2 - 1)), (0, .ref (ad o)), (1, .ref (ad a1)), (2, .int a2)]) hx hb dX7_gainFromFlag_22 hl (by decide) rfl (fun ls hl => ?_)
  refine lv_iconst (v := 0) hx hb dX7_gainFromFlag_24 (by decide) ?_
  refine lv_istore (lv' := [(6, .int 0), (5, .int (v9 - 1)), (4, .int v6), (3, .int (v2 - 1)), (0, .ref (ad o)), (1, .ref (ad a1)), (2, .int a2)]) hx hb dX7_gainFromFlag_25 hl (by decide) rfl (fun ls hl => ?_)
  refine lv_iconst (v := 0) hx hb dX7_gainFromFlag_27 (by decide) ?_
  refine lv_istore (lv' := [(7, .int 0), (6, .int 0), (5, .int (v9 - 1)), (4, .int v6), (3, .int (v2 - 1)), (0, .ref (ad o)), (1, .ref (ad a1)), (2, .int a2)]) hx hb dX7_gainFromFlag_28 hl (by decide) rfl (fun ls hl => ?_)
  exact wX7_gainFromFlag_30 fu C hem σ8 a1 a2 (v2 - 1) v6 (v9 - 1) 0 0 hf hB hS (lv_sub hl [6, 7, 4, 3, 2, 1, 0] rfl)
end SX7_gainFromFlag
set_option maxRecDepth 100000 in
theorem ctX7_gainFromFlag (l : Launch) (fu : Nat) (σ : hs_T) (o : Nat) (a1 : Nat) (a2 : Int32) : hs_C0 hs_tvi l yX7_gainFromFlag wsX7_gainFromFlag rmX7_gainFromFlag (fun ad => [.ref (ad o), .ref (ad a1), .int a2]) σ (fX7_gainFromFlag fu σ o a1 a2) := by
  intro X ad sz r τ hf
  refine hs_enter (cc := cX7_gainFromFlag) (maxL := 10) (ret := (some .int)) (by decide) rfl (Nat.le_of_ble_eq_true rfl) ?_
  intro p e s m below meth c ls C hl hem hB hS hsz
  exact wX7_gainFromFlag_e fu C hem σ o a1 a2 hf hB hS hl
/-! ServiceGame.gain(I)I -/
abbrev rmX7_gain : Room := { frames := 3, cells := 0, slots := 0, locals := 77 }
theorem inX7_gain_X5 : ∀ w ∈ wsX50, w ∈ wsX7_gain := fun _ h => List.mem_cons_of_mem _ (List.mem_append_left _ (List.mem_append_right _ h))
theorem inX7_gain_X7 : ∀ w ∈ wsX70, w ∈ wsX7_gain := fun _ h => List.mem_cons_of_mem _ (List.mem_append_left _ (List.mem_append_left _ (List.mem_append_right _ h)))
theorem lkX7_gain_0 : Cond.constant RX7 196 (-1000000) ∈ wsX7_gain := by decide +kernel
theorem lkX7_gain_1 : Cond.fieldLink RX7 54 "ServiceGame" "rounds" "I" ∈ wsX7_gain := by decide +kernel
theorem lkX7_gain_2 : Cond.fieldLink RX7 16 "ServiceGame" "services" "Ljava/util/ArrayList;" ∈ wsX7_gain := by decide +kernel
theorem lkX7_gain_3 : Cond.classLink RX7 62 "ServiceGame$Service" ∈ wsX7_gain := by decide +kernel
theorem lkX7_gain_4 : Cond.constant RX7 221 (-1000001) ∈ wsX7_gain := by decide +kernel
def fX7_gain_22 (fu : Nat)  (σ : hs_T)  : Option (Int32 × hs_T) :=
 some ((-1000000), σ)
def fX7_gain_39b (fu : Nat)  (k39 : hs_T → Nat → Int32 → Int32 → Int32 → Option (Int32 × hs_T)) (σ : hs_T) (x0 : Nat) (x1 : Int32) (x2 : Int32) (x3 : Int32) : Option (Int32 × hs_T) :=
 (hs_gN σ 9 x0 1).bind fun n15 =>
 (hs_ck σ 1 n15).bind fun _ =>
 hs_b2 (fJx4a65c_size_8abf5 fu σ n15) fun v19 σ17 =>
 if v19 ≤ x3 then
 (some (x2, σ17))
 else
 ((hs_gN σ17 9 x0 1).bind fun n22 =>
 (hs_ck σ17 1 n22).bind fun _ =>
 hs_b2 (fJx4a65c_get_915e3 fu σ17 n22 x3) fun r26 σ24 => hs_mt r26 none (fun n27 =>
 (hs_ck σ24 7 n27).bind fun _ =>
 (hs_gI σ24 7 n27 0).bind fun v30 =>
 if ((x1 >>> (v30 &&& 31)) &&& 1) = 1 then
 ((hs_ck σ24 9 x0).bind fun _ =>
 hs_b2 (fX7_gainFromFlag fu σ24 x0 n27 x1) fun v35 σ33 =>
 k39 σ33 x0 x1 (x2 + v35) (x3 + 1))
 else
 (k39 σ24 x0 x1 x2 (x3 + 1))))
def fX7_gain_39 (fu : Nat)  (σ : hs_T) (x0 : Nat) (x1 : Int32) (x2 : Int32) (x3 : Int32) : Option (Int32 × hs_T) :=
   hs_lp (fun (k : hs_T × Nat × Int32 × Int32 × Int32 → Option (Int32 × hs_T)) (a : hs_T × Nat × Int32 × Int32 × Int32) => fX7_gain_39b fu  (fun σ x0 x1 x2 x3 => k (σ, x0, x1, x2, x3)) a.1 a.2.1 a.2.2.1 a.2.2.2.1 a.2.2.2.2) fu (σ, x0, x1, x2, x3)
def fX7_gain (fu : Nat) (σ : hs_T) (o : Nat) (a1 : Int32) : Option (Int32 × hs_T) :=
 if a1 < 0 then
 (fX7_gain_22 fu σ )
 else
 ((hs_ck σ 9 o).bind fun _ =>
 hs_b2 (fX7_teams fu σ o) fun v5 σ3 =>
 if (1 <<< (v5 &&& 31)) ≤ a1 then
 (fX7_gain_22 fu σ3 )
 else
 (hs_b2 (fJ6_bitCount_0f7a4 fu σ3 a1) fun v9 σ8 =>
 if 2 ≤ v9 then
 ((hs_gI σ8 9 o 8).bind fun v12 =>
 if v12 = 0 then
 (some ((-1000001), σ8))
 else
 (fX7_gain_39 fu σ8 o a1 0 0))
 else
 (fX7_gain_22 fu σ8 )))
section SX7_gain
variable {p : Program} {l : Launch} {e : Env} {s : State} {m : MethodId} {args : Array Value} {below : List Frame} {meth : Method} {c : Code} {X : hs_X} {ad : Nat → Nat} {A : Nat → Prop} {r : Int32} {τ : hs_T}
set_option maxRecDepth 100000 in
set_option maxHeartbeats 4000000 in
theorem wX7_gain_22 (fu : Nat) (C : hs_Cx p s m args meth c X A yX7_gain cX7_gain 5 (some .int) wsX7_gain) (hem : ad hs_em = X.2.2.1.2.2.2)  {H : Heap} {locs : List Loc} {ls : Array Slot} (σ : hs_T)  (hf : fX7_gain_22 fu  σ  = some (r, τ)) (hB : hs_H X.1 X.2.1 ad A σ H) (hS : va_S A s.heap H locs) (hl : lv_has ls 5 []) : W p l e rmX7_gain s m args below meth c H locs 0 0 (MQ below (hs_Q0 hs_tvi X ad A r τ) args s 0 0 A) (F0 m 22 ls []) := by
  obtain ⟨hx, hb, hml, hr, hts, hown, hlk, hnm, hV, hA0, hA⟩ := id C
  have hown : s.vm.findClass RX7 = some m.cls := hown
  have hK := hV.1
  have hNw := hV.2.1
  unfold fX7_gain_22 at hf
  refine lv_ldc hx hb hown (hts _ lkX7_gain_0) dX7_gain_22 ?_
  obtain ⟨rfl, rfl⟩ := hs_ri hf
  exact hs_iret hx hb hr hlk hB hS dX7_gain_24
set_option maxRecDepth 100000 in
set_option maxHeartbeats 4000000 in
theorem wX7_gain_39b (fu : Nat) (C : hs_Cx p s m args meth c X A yX7_gain cX7_gain 5 (some .int) wsX7_gain) (hem : ad hs_em = X.2.2.1.2.2.2)  (k39 : hs_T → Nat → Int32 → Int32 → Int32 → Option (Int32 × hs_T)) (hk39 : ∀ (σ : hs_T) (x0 : Nat) (x1 : Int32) (x2 : Int32) (x3 : Int32) (H : Heap) (locs : List Loc) (ls : Array Slot), k39 σ x0 x1 x2 x3 = some (r, τ) → hs_H X.1 X.2.1 ad A σ H → va_S A s.heap H locs → lv_has ls 5 [(0, .ref (ad x0)), (1, .int x1), (2, .int x2), (3, .int x3)] → W p l e rmX7_gain s m args below meth c H locs 0 0 (MQ below (hs_Q0 hs_tvi X ad A r τ) args s 0 0 A) (F0 m 39 ls [])) {H : Heap} {locs : List Loc} {ls : Array Slot} (σ : hs_T) (x0 : Nat) (x1 : Int32) (x2 : Int32) (x3 : Int32) (hf : fX7_gain_39b fu  k39 σ x0 x1 x2 x3 = some (r, τ)) (hB : hs_H X.1 X.2.1 ad A σ H) (hS : va_S A s.heap H locs) (hl : lv_has ls 5 [(0, .ref (ad x0)), (1, .int x1), (2, .int x2), (3, .int x3)]) : W p l e rmX7_gain s m args below meth c H locs 0 0 (MQ below (hs_Q0 hs_tvi X ad A r τ) args s 0 0 A) (F0 m 39 ls []) := by
  obtain ⟨hx, hb, hml, hr, hts, hown, hlk, hnm, hV, hA0, hA⟩ := id C
  have hown : s.vm.findClass RX7 = some m.cls := hown
  have hK := hV.1
  have hNw := hV.2.1
  unfold fX7_gain_39b at hf
  refine lv_iload_n hx hb dX7_gain_39 rfl (lv_at hl 3 rfl) ?_
  refine lv_aload_n hx hb dX7_gain_40 rfl (lv_at hl 0 rfl) ?_
  obtain ⟨n15, h14, hf⟩ := hs_bi hf
  refine x_getN hx hb hts inX7_gain_X7 hown hK hB (by decide) rfl (k := 1) (by decide) rfl h14 (hts _ lkX7_gain_2) (fun _ h9 => h9) dX7_gain_41 ?_
  obtain ⟨_, h18, hf⟩ := hs_bi hf
  obtain ⟨v19, σ17, h16, hf⟩ := hs_b2i hf
  refine hs_call0 (va_runV (As := []) (rest := [.int x3]) ⟨hx, hb, hml, hown, hts⟩ (ctJx4a65c_size_8abf5 l fu σ n15 X ad H.size _ _ h16) (cwV 0 hts gX7_gain_Jx4a65c_size_8abf5 rfl rfl rfl (by decide +kernel) ⟨Nat.le_of_ble_eq_true rfl, Nat.le_of_ble_eq_true rfl⟩) (hs_preV (hs_recv hK hB (hs_ck_i h18) (by decide) rfl) hV hB hS hA0 hA hem) rfl rfl hl.1 rfl (lv_room (Nat.le_of_ble_eq_true rfl)) dX7_gain_44 ⟨Nat.le_of_ble_eq_true rfl, Nat.le_of_ble_eq_true rfl⟩) hB hS hA rfl (fun H locs hB hS => ?_)
  refine lv_icmp_ge (tgt := 92) hx hb dX7_gain_47 (by decide) (fun h20 => ?_) (fun h20 => ?_)
  · have hf := hs_tt h20 hf
    refine lv_iload_n hx hb dX7_gain_92 rfl (lv_at hl 2 rfl) ?_
    obtain ⟨rfl, rfl⟩ := hs_ri hf
    exact hs_iret hx hb hr hlk hB hS dX7_gain_93
  · have hf := hs_ff h20 hf
    refine lv_aload_n hx hb dX7_gain_50 rfl (lv_at hl 0 rfl) ?_
    obtain ⟨n22, h21, hf⟩ := hs_bi hf
    refine x_getN hx hb hts inX7_gain_X7 hown hK hB (by decide) rfl (k := 1) (by decide) rfl h21 (hts _ lkX7_gain_2) (fun _ h9 => h9) dX7_gain_51 ?_
    refine lv_iload_n hx hb dX7_gain_54 rfl (lv_at hl 3 rfl) ?_
    obtain ⟨_, h25, hf⟩ := hs_bi hf
    obtain ⟨r26, σ24, h23, hf⟩ := hs_b2i hf
    obtain ⟨n27, hf, rfl⟩ := hs_mx hf
    refine hs_call0 (va_runV (As := [.int x3]) (rest := []) ⟨hx, hb, hml, hown, hts⟩ (ctJx4a65c_get_915e3 l fu σ17 n22 x3 X ad H.size _ _ h23) (cwV 1 hts gX7_gain_Jx4a65c_get_915e3 rfl rfl rfl (by decide +kernel) ⟨Nat.le_of_ble_eq_true rfl, Nat.le_of_ble_eq_true rfl⟩) (hs_preV (hs_recv hK hB (hs_ck_i h25) (by decide) rfl) hV hB hS hA0 hA hem) rfl rfl hl.1 rfl (lv_room (Nat.le_of_ble_eq_true rfl)) dX7_gain_55 ⟨Nat.le_of_ble_eq_true rfl, Nat.le_of_ble_eq_true rfl⟩) hB hS hA rfl (fun H locs hB hS => ?_)
    obtain ⟨_, h28, hf⟩ := hs_bi hf
    refine x_cast hx hb hown (hts _ lkX7_gain_3) hK hB (hs_ck_i h28) (by decide) rfl dX7_gain_58 ?_
    refine lv_astore (lv' := [(4, .ref (ad n27)), (0, .ref (ad x0)), (1, .int x1), (2, .int x2), (3, .int x3)]) hx hb dX7_gain_61 hl (by decide) rfl (fun ls hl => ?_)
    refine lv_iload_n hx hb dX7_gain_63 rfl (lv_at hl 2 rfl) ?_
    refine lv_aload hx hb dX7_gain_64 (lv_at hl 0 rfl) ?_
    obtain ⟨v30, h29, hf⟩ := hs_bi hf
    refine x_getIN hx hb hts inX7_gain_X5 hown hK hB (by decide) rfl (k := 0) (by decide) rfl h29 (hNw (.fieldLinkNest "ServiceGame" 222 "ServiceGame$Service" "team" "I" "ServiceGame") (by decide +kernel)) (fun _ h9 => h9) dX7_gain_66 ?_
    refine lv_ishr hx hb dX7_gain_69 ?_
    refine lv_iconst (v := 1) hx hb dX7_gain_70 (by decide) ?_
    refine lv_iand hx hb dX7_gain_71 ?_
    refine lv_iconst (v := 1) hx hb dX7_gain_72 (by decide) ?_
    refine lv_icmp_ne (tgt := 86) hx hb dX7_gain_73 (by decide) (fun h31 => ?_) (fun h31 => ?_)
    · have hf := hs_ff h31 hf
      refine lv_iinc (v := (x3 + 1)) (lv' := [(3, .int (x3 + 1)), (4, .ref (ad n27)), (0, .ref (ad x0)), (1, .int x1), (2, .int x2)]) hx hb dX7_gain_86 hl (k := 4) rfl rfl (by decide) rfl (fun ls hl => ?_)
      refine lv_goto (tgt := 39) hx hb dX7_gain_89 (by decide) ?_
      exact hk39 σ24 x0 x1 x2 (x3 + 1) _ _ _ hf hB hS (lv_sub hl [2, 3, 4, 0] rfl)
    · have hf := hs_tt h31 hf
      refine lv_iload_n hx hb dX7_gain_76 rfl (lv_at hl 3 rfl) ?_
      refine lv_aload_n hx hb dX7_gain_77 rfl (lv_at hl 1 rfl) ?_
      refine lv_aload hx hb dX7_gain_78 (lv_at hl 0 rfl) ?_
      refine lv_iload_n hx hb dX7_gain_80 rfl (lv_at hl 2 rfl) ?_
      obtain ⟨_, h34, hf⟩ := hs_bi hf
      obtain ⟨v35, σ33, h32, hf⟩ := hs_b2i hf
      refine hs_call0 (va_runV (As := [.ref (ad n27), .int x1]) (rest := [.int x2]) ⟨hx, hb, hml, hown, hts⟩ (ctX7_gainFromFlag l fu σ24 x0 n27 x1 X ad H.size _ _ h32) (cwV 2 hts gX7_gain_X7_gainFromFlag rfl rfl rfl (by decide +kernel) ⟨Nat.le_of_ble_eq_true rfl, Nat.le_of_ble_eq_true rfl⟩) (hs_preV (hs_recv hK hB (hs_ck_i h34) (by decide) rfl) hV hB hS hA0 hA hem) rfl rfl hl.1 rfl (lv_room (Nat.le_of_ble_eq_true rfl)) dX7_gain_81 ⟨Nat.le_of_ble_eq_true rfl, Nat.le_of_ble_eq_true rfl⟩) hB hS hA rfl (fun H locs hB hS => ?_)
      refine lv_iadd hx hb dX7_gain_84 ?_
      refine lv_istore_n (lv' := [(2, .int (x2 + v35)), (4, .ref (ad n27)), (0, .ref (ad x0)), (1, .int x1), (3, .int x3)]) hx hb dX7_gain_85 rfl hl (by decide) rfl (fun ls hl => ?_)
      refine lv_iinc (v := (x3 + 1)) (lv' := [(3, .int (x3 + 1)), (2, .int (x2 + v35)), (4, .ref (ad n27)), (0, .ref (ad x0)), (1, .int x1)]) hx hb dX7_gain_86 hl (k := 4) rfl rfl (by decide) rfl (fun ls hl => ?_)
      refine lv_goto (tgt := 39) hx hb dX7_gain_89 (by decide) ?_
      exact hk39 σ33 x0 x1 (x2 + v35) (x3 + 1) _ _ _ hf hB hS (lv_sub hl [3, 4, 1, 0] rfl)
set_option maxRecDepth 100000 in
set_option maxHeartbeats 4000000 in
theorem wX7_gain_39 (fu : Nat) (C : hs_Cx p s m args meth c X A yX7_gain cX7_gain 5 (some .int) wsX7_gain) (hem : ad hs_em = X.2.2.1.2.2.2)  {H : Heap} {locs : List Loc} {ls : Array Slot} (σ : hs_T) (x0 : Nat) (x1 : Int32) (x2 : Int32) (x3 : Int32) (hf : fX7_gain_39 fu  σ x0 x1 x2 x3 = some (r, τ)) (hB : hs_H X.1 X.2.1 ad A σ H) (hS : va_S A s.heap H locs) (hl : lv_has ls 5 [(0, .ref (ad x0)), (1, .int x1), (2, .int x2), (3, .int x3)]) : W p l e rmX7_gain s m args below meth c H locs 0 0 (MQ below (hs_Q0 hs_tvi X ad A r τ) args s 0 0 A) (F0 m 39 ls []) := by
  unfold fX7_gain_39 at hf
  exact hs_lp_i (P := fun a => ∀ (H : Heap) (locs : List Loc) (ls : Array Slot), hs_H X.1 X.2.1 ad A a.1 H → va_S A s.heap H locs → lv_has ls 5 [(0, .ref (ad a.2.1)), (1, .int a.2.2.1), (2, .int a.2.2.2.1), (3, .int a.2.2.2.2)] → W p l e rmX7_gain s m args below meth c H locs 0 0 (MQ below (hs_Q0 hs_tvi X ad A r τ) args s 0 0 A) (F0 m 39 ls [])) (fun k a hk hf H locs ls hB hS hl => wX7_gain_39b fu C hem  _ (fun σ x0 x1 x2 x3 H locs ls hf hB hS hl => hk (σ, x0, x1, x2, x3) hf H locs ls hB hS hl) a.1 a.2.1 a.2.2.1 a.2.2.2.1 a.2.2.2.2 hf hB hS hl) fu (σ, x0, x1, x2, x3) hf H locs ls hB hS hl
set_option maxRecDepth 100000 in
set_option maxHeartbeats 4000000 in
theorem wX7_gain_e (fu : Nat) (C : hs_Cx p s m args meth c X A yX7_gain cX7_gain 5 (some .int) wsX7_gain) (hem : ad hs_em = X.2.2.1.2.2.2) {H : Heap} {locs : List Loc} {ls : Array Slot} (σ : hs_T) (o : Nat) (a1 : Int32) (hf : fX7_gain fu σ o a1 = some (r, τ)) (hB : hs_H X.1 X.2.1 ad A σ H) (hS : va_S A s.heap H locs) (hl : lv_has ls 5 [(0, .ref (ad o)), (1, .int a1)]) : W p l e rmX7_gain s m args below meth c H locs 0 0 (MQ below (hs_Q0 hs_tvi X ad A r τ) args s 0 0 A) (F0 m 0 ls []) := by
  obtain ⟨hx, hb, hml, hr, hts, hown, hlk, hnm, hV, hA0, hA⟩ := id C
  have hown : s.vm.findClass RX7 = some m.cls := hown
  have hK := hV.1
  have hNw := hV.2.1
  unfold fX7_gain at hf
  refine lv_iload_n hx hb dX7_gain_0 rfl (lv_at hl 1 rfl) ?_
  refine lv_if_lt (tgt := 22) hx hb dX7_gain_1 (by decide) (fun h1 => ?_) (fun h1 => ?_)
  · have hf := hs_tt h1 hf
    exact wX7_gain_22 fu C hem σ  hf hB hS (lv_sub hl [] rfl)
  · have hf := hs_ff h1 hf
    refine lv_iload_n hx hb dX7_gain_4 rfl (lv_at hl 1 rfl) ?_
    refine lv_iconst (v := 1) hx hb dX7_gain_5 (by decide) ?_
    refine lv_aload_n hx hb dX7_gain_6 rfl (lv_at hl 0 rfl) ?_
    obtain ⟨_, h4, hf⟩ := hs_bi hf
    obtain ⟨v5, σ3, h2, hf⟩ := hs_b2i hf
    refine hs_call0 (va_runV (As := []) (rest := [.int 1, .int a1]) ⟨hx, hb, hml, hown, hts⟩ (ctX7_teams l fu σ o X ad H.size _ _ h2) (cwV 0 hts gX7_gain_X7_teams rfl rfl rfl (by decide +kernel) ⟨Nat.le_of_ble_eq_true rfl, Nat.le_of_ble_eq_true rfl⟩) (hs_preV (hs_recv hK hB (hs_ck_i h4) (by decide) rfl) hV hB hS hA0 hA hem) rfl rfl hl.1 rfl (lv_room (Nat.le_of_ble_eq_true rfl)) dX7_gain_7 ⟨Nat.le_of_ble_eq_true rfl, Nat.le_of_ble_eq_true rfl⟩) hB hS hA rfl (fun H locs hB hS => ?_)
    refine lv_ishl hx hb dX7_gain_10 ?_
    refine lv_icmp_ge (tgt := 22) hx hb dX7_gain_11 (by decide) (fun h6 => ?_) (fun h6 => ?_)
    · have hf := hs_tt h6 hf
      exact wX7_gain_22 fu C hem σ3  hf hB hS (lv_sub hl [] rfl)
    · have hf := hs_ff h6 hf
      refine lv_iload_n hx hb dX7_gain_14 rfl (lv_at hl 1 rfl) ?_
      obtain ⟨v9, σ8, h7, hf⟩ := hs_b2i hf
      refine hs_call0 (va_runS (As := [.int a1]) (rest := []) ⟨hx, hb, hml, hown, hts⟩ (ctJ6_bitCount_0f7a4 l fu σ3 a1 X ad H.size _ _ h7) (va_cwS 1 hts gX7_gain_J6_bitCount_0f7a4 rfl rfl rfl (by decide +kernel) ⟨Nat.le_of_ble_eq_true rfl, Nat.le_of_ble_eq_true rfl⟩) (hs_pre hV hB hS hA0 hA hem) rfl rfl hl.1 rfl (lv_room (Nat.le_of_ble_eq_true rfl)) dX7_gain_15 ⟨Nat.le_of_ble_eq_true rfl, Nat.le_of_ble_eq_true rfl⟩) hB hS hA rfl (fun H locs hB hS => ?_)
      refine lv_iconst (v := 2) hx hb dX7_gain_18 (by decide) ?_
      refine lv_icmp_ge (tgt := 25) hx hb dX7_gain_19 (by decide) (fun h10 => ?_) (fun h10 => ?_)
      · have hf := hs_tt h10 hf
        refine lv_aload_n hx hb dX7_gain_25 rfl (lv_at hl 0 rfl) ?_
        obtain ⟨v12, h11, hf⟩ := hs_bi hf
        refine x_getI hx hb hts inX7_gain_X7 hown hK hB (by decide) rfl (k := 8) (by decide) rfl h11 (hts _ lkX7_gain_1) (fun _ h9 => h9) dX7_gain_26 ?_
        refine lv_if_ne (tgt := 35) hx hb dX7_gain_29 (by decide) (fun h13 => ?_) (fun h13 => ?_)
        · have hf := hs_ff h13 hf
          refine lv_iconst (v := 0) hx hb dX7_gain_35 (by decide) ?_
          refine lv_istore_n (lv' := [(2, .int 0), (0, .ref (ad o)), (1, .int a1)]) hx hb dX7_gain_36 rfl hl (by decide) rfl (fun ls hl => ?_)
          refine lv_iconst (v := 0) hx hb dX7_gain_37 (by decide) ?_
          refine lv_istore_n (lv' := [(3, .int 0), (2, .int 0), (0, .ref (ad o)), (1, .int a1)]) hx hb dX7_gain_38 rfl hl (by decide) rfl (fun ls hl => ?_)
          exact wX7_gain_39 fu C hem σ8 o a1 0 0 hf hB hS (lv_sub hl [2, 3, 1, 0] rfl)
        · have hf := hs_tt h13 hf
          refine lv_ldc hx hb hown (hts _ lkX7_gain_4) dX7_gain_32 ?_
          obtain ⟨rfl, rfl⟩ := hs_ri hf
          exact hs_iret hx hb hr hlk hB hS dX7_gain_34
      · have hf := hs_ff h10 hf
        exact wX7_gain_22 fu C hem σ8  hf hB hS (lv_sub hl [] rfl)
end SX7_gain
set_option maxRecDepth 100000 in
theorem ctX7_gain (l : Launch) (fu : Nat) (σ : hs_T) (o : Nat) (a1 : Int32) : hs_C0 hs_tvi l yX7_gain wsX7_gain rmX7_gain (fun ad => [.ref (ad o), .int a1]) σ (fX7_gain fu σ o a1) := by
  intro X ad sz r τ hf
  refine hs_enter (cc := cX7_gain) (maxL := 5) (ret := (some .int)) (by decide) rfl (Nat.le_of_ble_eq_true rfl) ?_
  intro p e s m below meth c ls C hl hem hB hS hsz
  exact wX7_gain_e fu C hem σ o a1 hf hB hS hl
/-! ServiceGame.alike(II)I -/
abbrev rmX7_alike : Room := { frames := 4, cells := 0, slots := 0, locals := 86 }
theorem inX7_alike_X5 : ∀ w ∈ wsX50, w ∈ wsX7_alike := fun _ h => List.mem_cons_of_mem _ (List.mem_append_left _ (List.mem_append_right _ h))
theorem inX7_alike_X7 : ∀ w ∈ wsX70, w ∈ wsX7_alike := fun _ h => List.mem_cons_of_mem _ (List.mem_append_left _ (List.mem_append_left _ (List.mem_append_right _ h)))
theorem lkX7_alike_0 : Cond.fieldLink RX7 54 "ServiceGame" "rounds" "I" ∈ wsX7_alike := by decide +kernel
def fX7_alike (fu : Nat) (σ : hs_T) (o : Nat) (a1 : Int32) (a2 : Int32) : Option (Int32 × hs_T) :=
 (hs_ck σ 9 o).bind fun _ =>
 hs_b2 (fX7_find fu σ o a1 a2) fun r4 σ2 => hs_mt r4
 (some ((-1), σ2))
 (fun n5 =>
 (hs_gI σ2 9 o 8).bind fun v7 =>
 if v7 = 0 then
 (some ((-3), σ2))
 else
 ((hs_gI σ2 7 n5 13).bind fun v10 =>
 some (v10, σ2)))
section SX7_alike
variable {p : Program} {l : Launch} {e : Env} {s : State} {m : MethodId} {args : Array Value} {below : List Frame} {meth : Method} {c : Code} {X : hs_X} {ad : Nat → Nat} {A : Nat → Prop} {r : Int32} {τ : hs_T}
set_option maxRecDepth 100000 in
set_option maxHeartbeats 4000000 in
theorem wX7_alike_e (fu : Nat) (C : hs_Cx p s m args meth c X A yX7_alike cX7_alike 4 (some .int) wsX7_alike) (hem : ad hs_em = X.2.2.1.2.2.2) {H : Heap} {locs : List Loc} {ls : Array Slot} (σ : hs_T) (o : Nat) (a1 : Int32) (a2 : Int32) (hf : fX7_alike fu σ o a1 a2 = some (r, τ)) (hB : hs_H X.1 X.2.1 ad A σ H) (hS : va_S A s.heap H locs) (hl : lv_has ls 4 [(0, .ref (ad o)), (1, .int a1), (2, .int a2)]) : W p l e rmX7_alike s m args below meth c H locs 0 0 (MQ below (hs_Q0 hs_tvi X ad A r τ) args s 0 0 A) (F0 m 0 ls []) := by
  obtain ⟨hx, hb, hml, hr, hts, hown, hlk, hnm, hV, hA0, hA⟩ := id C
  have hown : s.vm.findClass RX7 = some m.cls := hown
  have hK := hV.1
  have hNw := hV.2.1
  unfold fX7_alike at hf
  refine lv_aload_n hx hb dX7_alike_0 rfl (lv_at hl 0 rfl) ?_
  refine lv_iload_n hx hb dX7_alike_1 rfl (lv_at hl 1 rfl) ?_
  refine lv_iload_n hx hb dX7_alike_2 rfl (lv_at hl 2 rfl) ?_
  obtain ⟨_, h3, hf⟩ := hs_bi hf
  obtain ⟨r4, σ2, h1, hf⟩ := hs_b2i hf
  cases r4 with
  | none =>
    have hf := hs_mn hf
    refine hs_call0 (va_runV (As := [.int a1, .int a2]) (rest := []) ⟨hx, hb, hml, hown, hts⟩ (ctX7_find l fu σ o a1 a2 X ad H.size _ _ h1) (cwV 2 hts gX7_alike_X7_find rfl rfl rfl (by decide +kernel) ⟨Nat.le_of_ble_eq_true rfl, Nat.le_of_ble_eq_true rfl⟩) (hs_preV (hs_recv hK hB (hs_ck_i h3) (by decide) rfl) hV hB hS hA0 hA hem) rfl rfl hl.1 rfl (lv_room (Nat.le_of_ble_eq_true rfl)) dX7_alike_3 ⟨Nat.le_of_ble_eq_true rfl, Nat.le_of_ble_eq_true rfl⟩) hB hS hA rfl (fun H locs hB hS => ?_)
    refine lv_astore_nN (lv' := [(3, .null), (0, .ref (ad o)), (1, .int a1), (2, .int a2)]) hx hb dX7_alike_6 rfl hl (by decide) rfl (fun ls hl => ?_)
    refine lv_aload_nN hx hb dX7_alike_7 rfl (lv_at hl 0 rfl) ?_
    refine lv_ifnonnullN hx hb dX7_alike_8 ?_
    refine lv_iconst (v := (-1)) hx hb dX7_alike_11 (by decide) ?_
    obtain ⟨rfl, rfl⟩ := hs_ri hf
    exact hs_iret hx hb hr hlk hB hS dX7_alike_12
  | some n5 =>
    have hf := hs_ms hf
    refine hs_call0 (va_runV (As := [.int a1, .int a2]) (rest := []) ⟨hx, hb, hml, hown, hts⟩ (ctX7_find l fu σ o a1 a2 X ad H.size _ _ h1) (cwV 2 hts gX7_alike_X7_find rfl rfl rfl (by decide +kernel) ⟨Nat.le_of_ble_eq_true rfl, Nat.le_of_ble_eq_true rfl⟩) (hs_preV (hs_recv hK hB (hs_ck_i h3) (by decide) rfl) hV hB hS hA0 hA hem) rfl rfl hl.1 rfl (lv_room (Nat.le_of_ble_eq_true rfl)) dX7_alike_3 ⟨Nat.le_of_ble_eq_true rfl, Nat.le_of_ble_eq_true rfl⟩) hB hS hA rfl (fun H locs hB hS => ?_)
    refine lv_astore_n (lv' := [(3, .ref (ad n5)), (0, .ref (ad o)), (1, .int a1), (2, .int a2)]) hx hb dX7_alike_6 rfl hl (by decide) rfl (fun ls hl => ?_)
    refine lv_aload_n hx hb dX7_alike_7 rfl (lv_at hl 0 rfl) ?_
    refine lv_ifnonnull (tgt := 13) hx hb dX7_alike_8 (by decide) ?_
    refine lv_aload_n hx hb dX7_alike_13 rfl (lv_at hl 1 rfl) ?_
    obtain ⟨v7, h6, hf⟩ := hs_bi hf
    refine x_getI hx hb hts inX7_alike_X7 hown hK hB (by decide) rfl (k := 8) (by decide) rfl h6 (hts _ lkX7_alike_0) (fun _ h9 => h9) dX7_alike_14 ?_
    refine lv_if_ne (tgt := 25) hx hb dX7_alike_17 (by decide) (fun h8 => ?_) (fun h8 => ?_)
    · have hf := hs_ff h8 hf
      refine lv_aload_n hx hb dX7_alike_25 rfl (lv_at hl 0 rfl) ?_
      obtain ⟨v10, h9, hf⟩ := hs_bi hf
      refine x_getIN hx hb hts inX7_alike_X5 hown hK hB (by decide) rfl (k := 13) (by decide) rfl h9 (hNw (.fieldLinkNest "ServiceGame" 153 "ServiceGame$Service" "likeChecks" "I" "ServiceGame") (by decide +kernel)) (fun _ h9 => h9) dX7_alike_26 ?_
      obtain ⟨rfl, rfl⟩ := hs_ri hf
      exact hs_iret hx hb hr hlk hB hS dX7_alike_29
    · have hf := hs_tt h8 hf
      refine lv_bipush (v := (-3)) hx hb dX7_alike_20 (by decide) ?_
      refine lv_goto (tgt := 29) hx hb dX7_alike_22 (by decide) ?_
      obtain ⟨rfl, rfl⟩ := hs_ri hf
      exact hs_iret hx hb hr hlk hB hS dX7_alike_29
end SX7_alike
set_option maxRecDepth 100000 in
theorem ctX7_alike (l : Launch) (fu : Nat) (σ : hs_T) (o : Nat) (a1 : Int32) (a2 : Int32) : hs_C0 hs_tvi l yX7_alike wsX7_alike rmX7_alike (fun ad => [.ref (ad o), .int a1, .int a2]) σ (fX7_alike fu σ o a1 a2) := by
  intro X ad sz r τ hf
  refine hs_enter (cc := cX7_alike) (maxL := 4) (ret := (some .int)) (by decide) rfl (Nat.le_of_ble_eq_true rfl) ?_
  intro p e s m below meth c ls C hl hem hB hS hsz
  exact wX7_alike_e fu C hem σ o a1 a2 hf hB hS hl
/-! ServiceGame.count(I)I -/
abbrev rmX7_count : Room := { frames := 2, cells := 0, slots := 0, locals := 40 }
theorem inX7_count_X1 : ∀ w ∈ wsX10, w ∈ wsX7_count := fun _ h => List.mem_cons_of_mem _ (List.mem_append_left _ (List.mem_append_right _ h))
theorem inX7_count_X6 : ∀ w ∈ wsX60, w ∈ wsX7_count := fun _ h => List.mem_cons_of_mem _ (List.mem_append_left _ (List.mem_append_left _ (List.mem_append_right _ h)))
theorem inX7_count_X7 : ∀ w ∈ wsX70, w ∈ wsX7_count := fun _ h => List.mem_cons_of_mem _ (List.mem_append_left _ (List.mem_append_left _ (List.mem_append_left _ (List.mem_append_right _ h))))
theorem lkX7_count_0 : Cond.fieldLink RX7 54 "ServiceGame" "rounds" "I" ∈ wsX7_count := by decide +kernel
theorem lkX7_count_1 : Cond.fieldLink RX7 20 "ServiceGame" "log" "Ljava/util/ArrayList;" ∈ wsX7_count := by decide +kernel
theorem lkX7_count_2 : Cond.fieldLink RX7 129 "ServiceGame" "lettersInAll" "I" ∈ wsX7_count := by decide +kernel
theorem lkX7_count_3 : Cond.fieldLink RX7 26 "ServiceGame" "tape" "LServiceGame$Tape;" ∈ wsX7_count := by decide +kernel
theorem lkX7_count_4 : Cond.fieldLink RX7 40 "ServiceGame" "machine" "LServiceGame$Machine;" ∈ wsX7_count := by decide +kernel
def fX7_count (fu : Nat) (σ : hs_T) (o : Nat) (a1 : Int32) : Option (Int32 × hs_T) :=
 if a1 = 0 then
 ((hs_ck σ 9 o).bind fun _ =>
 hs_b2 (fX7_teams fu σ o) fun v5 σ3 =>
 some (v5, σ3))
 else
 if a1 = 1 then
 ((hs_gI σ 9 o 8).bind fun v8 =>
 some (v8, σ))
 else
 if a1 = 2 then
 ((hs_gN σ 9 o 2).bind fun n11 =>
 (hs_ck σ 1 n11).bind fun _ =>
 hs_b2 (fJx4a65c_size_8abf5 fu σ n11) fun v15 σ13 =>
 some (v15, σ13))
 else
 if a1 = 3 then
 ((hs_gI σ 9 o 9).bind fun v18 =>
 some (v18, σ))
 else
 if a1 = 4 then
 ((hs_gN σ 9 o 3).bind fun n21 =>
 (hs_gI σ 8 n21 1).bind fun v23 =>
 some (v23, σ))
 else
 if a1 = 5 then
 ((hs_gN σ 9 o 5).bind fun n26 =>
 (hs_gI σ 3 n26 5).bind fun v28 =>
 some (v28, σ))
 else
 (some ((-1), σ))
section SX7_count
variable {p : Program} {l : Launch} {e : Env} {s : State} {m : MethodId} {args : Array Value} {below : List Frame} {meth : Method} {c : Code} {X : hs_X} {ad : Nat → Nat} {A : Nat → Prop} {r : Int32} {τ : hs_T}
set_option maxRecDepth 100000 in
set_option maxHeartbeats 4000000 in
theorem wX7_count_e (fu : Nat) (C : hs_Cx p s m args meth c X A yX7_count cX7_count 2 (some .int) wsX7_count) (hem : ad hs_em = X.2.2.1.2.2.2) {H : Heap} {locs : List Loc} {ls : Array Slot} (σ : hs_T) (o : Nat) (a1 : Int32) (hf : fX7_count fu σ o a1 = some (r, τ)) (hB : hs_H X.1 X.2.1 ad A σ H) (hS : va_S A s.heap H locs) (hl : lv_has ls 2 [(0, .ref (ad o)), (1, .int a1)]) : W p l e rmX7_count s m args below meth c H locs 0 0 (MQ below (hs_Q0 hs_tvi X ad A r τ) args s 0 0 A) (F0 m 0 ls []) := by
  obtain ⟨hx, hb, hml, hr, hts, hown, hlk, hnm, hV, hA0, hA⟩ := id C
  have hown : s.vm.findClass RX7 = some m.cls := hown
  have hK := hV.1
  have hNw := hV.2.1
  unfold fX7_count at hf
  refine lv_iload_n hx hb dX7_count_0 rfl (lv_at hl 1 rfl) ?_
  by_cases h1 : a1 = 0
  · have hf := hs_tt h1 hf
    refine lv_tableIn (tgt := 40) hx hb dX7_count_1 (by rw [h1]; decide) (by rw [h1]; decide) (by rw [h1]; exact rfl) (by decide) ?_
    refine lv_aload_n hx hb dX7_count_40 rfl (lv_at hl 0 rfl) ?_
    obtain ⟨_, h4, hf⟩ := hs_bi hf
    obtain ⟨v5, σ3, h2, hf⟩ := hs_b2i hf
    refine hs_call0 (va_runV (As := []) (rest := []) ⟨hx, hb, hml, hown, hts⟩ (ctX7_teams l fu σ o X ad H.size _ _ h2) (cwV 0 hts gX7_count_X7_teams rfl rfl rfl (by decide +kernel) ⟨Nat.le_of_ble_eq_true rfl, Nat.le_of_ble_eq_true rfl⟩) (hs_preV (hs_recv hK hB (hs_ck_i h4) (by decide) rfl) hV hB hS hA0 hA hem) rfl rfl hl.1 rfl (lv_room (Nat.le_of_ble_eq_true rfl)) dX7_count_41 ⟨Nat.le_of_ble_eq_true rfl, Nat.le_of_ble_eq_true rfl⟩) hB hS hA rfl (fun H locs hB hS => ?_)
    obtain ⟨rfl, rfl⟩ := hs_ri hf
    exact hs_iret hx hb hr hlk hB hS dX7_count_44
  have hf := hs_ff h1 hf
  by_cases h6 : a1 = 1
  · have hf := hs_tt h6 hf
    refine lv_tableIn (tgt := 45) hx hb dX7_count_1 (by rw [h6]; decide) (by rw [h6]; decide) (by rw [h6]; exact rfl) (by decide) ?_
    refine lv_aload_n hx hb dX7_count_45 rfl (lv_at hl 0 rfl) ?_
    obtain ⟨v8, h7, hf⟩ := hs_bi hf
    refine x_getI hx hb hts inX7_count_X7 hown hK hB (by decide) rfl (k := 8) (by decide) rfl h7 (hts _ lkX7_count_0) (fun _ h9 => h9) dX7_count_46 ?_
    obtain ⟨rfl, rfl⟩ := hs_ri hf
    exact hs_iret hx hb hr hlk hB hS dX7_count_49
  have hf := hs_ff h6 hf
  by_cases h9 : a1 = 2
  · have hf := hs_tt h9 hf
    refine lv_tableIn (tgt := 50) hx hb dX7_count_1 (by rw [h9]; decide) (by rw [h9]; decide) (by rw [h9]; exact rfl) (by decide) ?_
    refine lv_aload_n hx hb dX7_count_50 rfl (lv_at hl 0 rfl) ?_
    obtain ⟨n11, h10, hf⟩ := hs_bi hf
    refine x_getN hx hb hts inX7_count_X7 hown hK hB (by decide) rfl (k := 2) (by decide) rfl h10 (hts _ lkX7_count_1) (fun _ h9 => h9) dX7_count_51 ?_
    obtain ⟨_, h14, hf⟩ := hs_bi hf
    obtain ⟨v15, σ13, h12, hf⟩ := hs_b2i hf
    refine hs_call0 (va_runV (As := []) (rest := []) ⟨hx, hb, hml, hown, hts⟩ (ctJx4a65c_size_8abf5 l fu σ n11 X ad H.size _ _ h12) (cwV 0 hts gX7_count_Jx4a65c_size_8abf5 rfl rfl rfl (by decide +kernel) ⟨Nat.le_of_ble_eq_true rfl, Nat.le_of_ble_eq_true rfl⟩) (hs_preV (hs_recv hK hB (hs_ck_i h14) (by decide) rfl) hV hB hS hA0 hA hem) rfl rfl hl.1 rfl (lv_room (Nat.le_of_ble_eq_true rfl)) dX7_count_54 ⟨Nat.le_of_ble_eq_true rfl, Nat.le_of_ble_eq_true rfl⟩) hB hS hA rfl (fun H locs hB hS => ?_)
    obtain ⟨rfl, rfl⟩ := hs_ri hf
    exact hs_iret hx hb hr hlk hB hS dX7_count_57
  have hf := hs_ff h9 hf
  by_cases h16 : a1 = 3
  · have hf := hs_tt h16 hf
    refine lv_tableIn (tgt := 58) hx hb dX7_count_1 (by rw [h16]; decide) (by rw [h16]; decide) (by rw [h16]; exact rfl) (by decide) ?_
    refine lv_aload_n hx hb dX7_count_58 rfl (lv_at hl 0 rfl) ?_
    obtain ⟨v18, h17, hf⟩ := hs_bi hf
    refine x_getI hx hb hts inX7_count_X7 hown hK hB (by decide) rfl (k := 9) (by decide) rfl h17 (hts _ lkX7_count_2) (fun _ h9 => h9) dX7_count_59 ?_
    obtain ⟨rfl, rfl⟩ := hs_ri hf
    exact hs_iret hx hb hr hlk hB hS dX7_count_62
  have hf := hs_ff h16 hf
  by_cases h19 : a1 = 4
  · have hf := hs_tt h19 hf
    refine lv_tableIn (tgt := 63) hx hb dX7_count_1 (by rw [h19]; decide) (by rw [h19]; decide) (by rw [h19]; exact rfl) (by decide) ?_
    refine lv_aload_n hx hb dX7_count_63 rfl (lv_at hl 0 rfl) ?_
    obtain ⟨n21, h20, hf⟩ := hs_bi hf
    refine x_getN hx hb hts inX7_count_X7 hown hK hB (by decide) rfl (k := 3) (by decide) rfl h20 (hts _ lkX7_count_3) (fun _ h9 => h9) dX7_count_64 ?_
    obtain ⟨v23, h22, hf⟩ := hs_bi hf
    refine x_getIN hx hb hts inX7_count_X6 hown hK hB (by decide) rfl (k := 1) (by decide) rfl h22 (hNw (.fieldLinkNest "ServiceGame" 71 "ServiceGame$Tape" "size" "I" "ServiceGame") (by decide +kernel)) (fun _ h9 => h9) dX7_count_67 ?_
    obtain ⟨rfl, rfl⟩ := hs_ri hf
    exact hs_iret hx hb hr hlk hB hS dX7_count_70
  have hf := hs_ff h19 hf
  by_cases h24 : a1 = 5
  · have hf := hs_tt h24 hf
    refine lv_tableIn (tgt := 71) hx hb dX7_count_1 (by rw [h24]; decide) (by rw [h24]; decide) (by rw [h24]; exact rfl) (by decide) ?_
    refine lv_aload_n hx hb dX7_count_71 rfl (lv_at hl 0 rfl) ?_
    obtain ⟨n26, h25, hf⟩ := hs_bi hf
    refine x_getN hx hb hts inX7_count_X7 hown hK hB (by decide) rfl (k := 5) (by decide) rfl h25 (hts _ lkX7_count_4) (fun _ h9 => h9) dX7_count_72 ?_
    obtain ⟨v28, h27, hf⟩ := hs_bi hf
    refine x_getIN hx hb hts inX7_count_X1 hown hK hB (by decide) rfl (k := 5) (by decide) rfl h27 (hNw (.fieldLinkNest "ServiceGame" 229 "ServiceGame$Machine" "fuelUsed" "I" "ServiceGame") (by decide +kernel)) (fun _ h9 => h9) dX7_count_75 ?_
    obtain ⟨rfl, rfl⟩ := hs_ri hf
    exact hs_iret hx hb hr hlk hB hS dX7_count_78
  have hf := hs_ff h24 hf
  refine lv_tableOut (tgt := 79) hx hb dX7_count_1 (by have g0 := lv_neT h1 (a := 0) (by decide); have g1 := lv_neT h6 (a := 1) (by decide); have g2 := lv_neT h9 (a := 2) (by decide); have g3 := lv_neT h16 (a := 3) (by decide); have g4 := lv_neT h19 (a := 4) (by decide); have g5 := lv_neT h24 (a := 5) (by decide); omega) (by decide) ?_
  refine lv_iconst (v := (-1)) hx hb dX7_count_79 (by decide) ?_
  obtain ⟨rfl, rfl⟩ := hs_ri hf
  exact hs_iret hx hb hr hlk hB hS dX7_count_80
end SX7_count
set_option maxRecDepth 100000 in
theorem ctX7_count (l : Launch) (fu : Nat) (σ : hs_T) (o : Nat) (a1 : Int32) : hs_C0 hs_tvi l yX7_count wsX7_count rmX7_count (fun ad => [.ref (ad o), .int a1]) σ (fX7_count fu σ o a1) := by
  intro X ad sz r τ hf
  refine hs_enter (cc := cX7_count) (maxL := 2) (ret := (some .int)) (by decide) rfl (Nat.le_of_ble_eq_true rfl) ?_
  intro p e s m below meth c ls C hl hem hB hS hsz
  exact wX7_count_e fu C hem σ o a1 hf hB hS hl
