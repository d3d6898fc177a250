/-! ServiceGameModel.mix(II)I -/
abbrev rmX8_mix : Room := { frames := 0, cells := 0, slots := 0, locals := 0 }
theorem inX8_mix_X8 : ∀ w ∈ wsX80, w ∈ wsX8_mix := fun _ h => List.mem_cons_of_mem _ (List.mem_append_right _ h)
theorem lkX8_mix_0 : Cond.fieldLink RX8 47 "ServiceGameModel" "set" "[I" ∈ wsX8_mix := by decide +kernel
def fX8_mix (fu : Nat) (σ : hs_T) (o : Nat) (a1 : Int32) (a2 : Int32) : Option (Int32 × hs_T) :=
 (hs_gN σ 10 o 17).bind fun n2 =>
 (hs_ld σ 11 n2 1).bind fun v3 =>
 some ((((((v3 * 31) + (a1 * 17)) + ((a2 / 3) * 7)) + ((a2 - a2 / 3 * 3) * 3)) - ((((v3 * 31) + (a1 * 17)) + ((a2 / 3) * 7)) + ((a2 - a2 / 3 * 3) * 3)) / 997 * 997), σ)
section SX8_mix
variable {p : Program} {l : Launch} {e : Env} {s : State} {m : MethodId} {args : Array Value} {below : List Frame} {meth : Method} {c : Code} {X : hs_X} {ad : Nat → Nat} {A : Nat → Prop} {r : Int32} {τ : hs_T}
set_option maxRecDepth 100000 in
set_option maxHeartbeats 4000000 in
theorem wX8_mix_e (fu : Nat) (C : hs_Cx p s m args meth c X A yX8_mix cX8_mix 3 (some .int) wsX8_mix) (hem : ad hs_em = X.2.2.1.2.2.2) {H : Heap} {locs : List Loc} {ls : Array Slot} (σ : hs_T) (o : Nat) (a1 : Int32) (a2 : Int32) (hf : fX8_mix fu σ o a1 a2 = some (r, τ)) (hB : hs_H X.1 X.2.1 ad A σ H) (hS : va_S A s.heap H locs) (hl : lv_has ls 3 [(0, .ref (ad o)), (1, .int a1), (2, .int a2)]) : W p l e rmX8_mix s m args below meth c H locs 0 0 (MQ below (hs_Q0 hs_tvi X ad A r τ) args s 0 0 A) (F0 m 0 ls []) := by
  obtain ⟨hx, hb, hml, hr, hts, hown, hlk, hnm, hV, hA0, hA⟩ := id C
  have hown : s.vm.findClass RX8 = some m.cls := hown
  have hK := hV.1
  have hNw := hV.2.1
  unfold fX8_mix at hf
  refine lv_aload_n hx hb dX8_mix_0 rfl (lv_at hl 0 rfl) ?_
  obtain ⟨n2, h1, hf⟩ := hs_bi hf
  refine x_getN hx hb hts inX8_mix_X8 hown hK hB (by decide) rfl (k := 17) (by decide) rfl h1 (hts _ lkX8_mix_0) (fun _ h9 => h9) dX8_mix_1 ?_
  refine lv_iconst (v := 1) hx hb dX8_mix_4 (by decide) ?_
  obtain ⟨v3, h4, hf⟩ := hs_bi hf
  refine x_iald hx hb hK hB h4 dX8_mix_5 ?_
  refine lv_bipush (v := 31) hx hb dX8_mix_6 (by decide) ?_
  refine lv_imul hx hb dX8_mix_8 ?_
  refine lv_iload_n hx hb dX8_mix_9 rfl (lv_at hl 1 rfl) ?_
  refine lv_bipush (v := 17) hx hb dX8_mix_10 (by decide) ?_
  refine lv_imul hx hb dX8_mix_12 ?_
  refine lv_iadd hx hb dX8_mix_13 ?_
  refine lv_iload_n hx hb dX8_mix_14 rfl (lv_at hl 2 rfl) ?_
  refine lv_iconst (v := 3) hx hb dX8_mix_15 (by decide) ?_
  refine lv_idiv hx hb dX8_mix_16 (by decide) ?_
  refine lv_bipush (v := 7) hx hb dX8_mix_17 (by decide) ?_
  refine lv_imul hx hb dX8_mix_19 ?_
  refine lv_iadd hx hb dX8_mix_20 ?_
  refine lv_iload_n hx hb dX8_mix_21 rfl (lv_at hl 2 rfl) ?_
  refine lv_iconst (v := 3) hx hb dX8_mix_22 (by decide) ?_
  refine lv_irem hx hb dX8_mix_23 (by decide) ?_
  refine lv_iconst (v := 3) hx hb dX8_mix_24 (by decide) ?_
  refine lv_imul hx hb dX8_mix_25 ?_
  refine lv_iadd hx hb dX8_mix_26 ?_
  refine lv_sipush (v := 997) hx hb dX8_mix_27 (by decide) ?_
  refine lv_irem hx hb dX8_mix_30 (by decide) ?_
  obtain ⟨rfl, rfl⟩ := hs_ri hf
  exact hs_iret hx hb hr hlk hB hS dX8_mix_31
end SX8_mix
set_option maxRecDepth 100000 in
theorem ctX8_mix (l : Launch) (fu : Nat) (σ : hs_T) (o : Nat) (a1 : Int32) (a2 : Int32) : hs_C0 hs_tvi l yX8_mix wsX8_mix rmX8_mix (fun ad => [.ref (ad o), .int a1, .int a2]) σ (fX8_mix fu σ o a1 a2) := by
  intro X ad sz r τ hf
  refine hs_enter (cc := cX8_mix) (maxL := 3) (ret := (some .int)) (by decide) rfl (Nat.le_of_ble_eq_true rfl) ?_
  intro p e s m below meth c ls C hl hem hB hS hsz
  exact wX8_mix_e fu C hem σ o a1 a2 hf hB hS hl
/-! ServiceGameModel.flagOf(II)I -/
abbrev rmX8_flagOf : Room := { frames := 1, cells := 0, slots := 0, locals := 22 }
def fX8_flagOf (fu : Nat) (σ : hs_T) (o : Nat) (a1 : Int32) (a2 : Int32) : Option (Int32 × hs_T) :=
 (hs_ck σ 10 o).bind fun _ =>
 hs_b2 (fX8_mix fu σ o a1 a2) fun v4 σ2 =>
 some ((((v4 * 13) + 1000) - ((v4 * 13) + 1000) / 10000 * 10000), σ2)
section SX8_flagOf
variable {p : Program} {l : Launch} {e : Env} {s : State} {m : MethodId} {args : Array Value} {below : List Frame} {meth : Method} {c : Code} {X : hs_X} {ad : Nat → Nat} {A : Nat → Prop} {r : Int32} {τ : hs_T}
set_option maxRecDepth 100000 in
set_option maxHeartbeats 4000000 in
theorem wX8_flagOf_e (fu : Nat) (C : hs_Cx p s m args meth c X A yX8_flagOf cX8_flagOf 3 (some .int) wsX8_flagOf) (hem : ad hs_em = X.2.2.1.2.2.2) {H : Heap} {locs : List Loc} {ls : Array Slot} (σ : hs_T) (o : Nat) (a1 : Int32) (a2 : Int32) (hf : fX8_flagOf fu σ o a1 a2 = some (r, τ)) (hB : hs_H X.1 X.2.1 ad A σ H) (hS : va_S A s.heap H locs) (hl : lv_has ls 3 [(0, .ref (ad o)), (1, .int a1), (2, .int a2)]) : W p l e rmX8_flagOf s m args below meth c H locs 0 0 (MQ below (hs_Q0 hs_tvi X ad A r τ) args s 0 0 A) (F0 m 0 ls []) := by
  obtain ⟨hx, hb, hml, hr, hts, hown, hlk, hnm, hV, hA0, hA⟩ := id C
  have hown : s.vm.findClass RX8 = some m.cls := hown
  have hK := hV.1
  have hNw := hV.2.1
  unfold fX8_flagOf at hf
  refine lv_aload_n hx hb dX8_flagOf_0 rfl (lv_at hl 0 rfl) ?_
  refine lv_iload_n hx hb dX8_flagOf_1 rfl (lv_at hl 1 rfl) ?_
  refine lv_iload_n hx hb dX8_flagOf_2 rfl (lv_at hl 2 rfl) ?_
  obtain ⟨_, h3, hf⟩ := hs_bi hf
  obtain ⟨v4, σ2, h1, hf⟩ := hs_b2i hf
  refine hs_call0 (va_runV (As := [.int a1, .int a2]) (rest := []) ⟨hx, hb, hml, hown, hts⟩ (ctX8_mix l fu σ o a1 a2 X ad H.size _ _ h1) (cwV 2 hts gX8_flagOf_X8_mix rfl rfl rfl (by decide +kernel) ⟨Nat.le_of_ble_eq_true rfl, Nat.le_of_ble_eq_true rfl⟩) (hs_preV (hs_recv hK hB (hs_ck_i h3) (by decide) rfl) hV hB hS hA0 hA hem) rfl rfl hl.1 rfl (lv_room (Nat.le_of_ble_eq_true rfl)) dX8_flagOf_3 ⟨Nat.le_of_ble_eq_true rfl, Nat.le_of_ble_eq_true rfl⟩) hB hS hA rfl (fun H locs hB hS => ?_)
  refine lv_bipush (v := 13) hx hb dX8_flagOf_6 (by decide) ?_
  refine lv_imul hx hb dX8_flagOf_8 ?_
  refine lv_sipush (v := 1000) hx hb dX8_flagOf_9 (by decide) ?_
  refine lv_iadd hx hb dX8_flagOf_12 ?_
  refine lv_sipush (v := 10000) hx hb dX8_flagOf_13 (by decide) ?_
  refine lv_irem hx hb dX8_flagOf_16 (by decide) ?_
  obtain ⟨rfl, rfl⟩ := hs_ri hf
  exact hs_iret hx hb hr hlk hB hS dX8_flagOf_17
end SX8_flagOf
set_option maxRecDepth 100000 in
theorem ctX8_flagOf (l : Launch) (fu : Nat) (σ : hs_T) (o : Nat) (a1 : Int32) (a2 : Int32) : hs_C0 hs_tvi l yX8_flagOf wsX8_flagOf rmX8_flagOf (fun ad => [.ref (ad o), .int a1, .int a2]) σ (fX8_flagOf fu σ o a1 a2) := by
  intro X ad sz r τ hf
  refine hs_enter (cc := cX8_flagOf) (maxL := 3) (ret := (some .int)) (by decide) rfl (Nat.le_of_ble_eq_true rfl) ?_
  intro p e s m below meth c ls C hl hem hB hS hsz
  exact wX8_flagOf_e fu C hem σ o a1 a2 hf hB hS hl
/-! ServiceGameModel.checks(II)Z -/
abbrev rmX8_checks : Room := { frames := 3, cells := 0, slots := 0, locals := 73 }
theorem inX8_checks_X8 : ∀ w ∈ wsX80, w ∈ wsX8_checks := fun _ h => List.mem_cons_of_mem _ (List.mem_append_right _ h)
theorem lkX8_checks_0 : Cond.fieldLink RX8 86 "ServiceGameModel" "order" "[I" ∈ wsX8_checks := by decide +kernel
theorem lkX8_checks_1 : Cond.fieldLink RX8 74 "ServiceGameModel" "which" "[I" ∈ wsX8_checks := by decide +kernel
theorem lkX8_checks_2 : Cond.fieldLink RX8 77 "ServiceGameModel" "second" "[I" ∈ wsX8_checks := by decide +kernel
theorem lkX8_checks_3 : Cond.fieldLink RX8 80 "ServiceGameModel" "answer" "[I" ∈ wsX8_checks := by decide +kernel
theorem lkX8_checks_4 : Cond.fieldLink RX8 83 "ServiceGameModel" "good" "[I" ∈ wsX8_checks := by decide +kernel
theorem lkX8_checks_5 : Cond.fieldLink RX8 47 "ServiceGameModel" "set" "[I" ∈ wsX8_checks := by decide +kernel
def fX8_checks_265 (fu : Nat) (k16 : hs_T → Nat → Int32 → Int32 → Int32 → Int32 → Int32 → Int32 → Option (Int32 × hs_T)) (σ : hs_T) (x0 : Nat) (x1 : Int32) (x2 : Int32) (x3 : Int32) (x4 : Int32) (x5 : Int32) (x6 : Int32) (x9 : Int32) (y0 : Int32) (y1 : Int32) (y2 : Nat) : Option (Int32 × hs_T) :=
 (hs_st σ 11 y2 y1 y0).bind fun σ41 =>
 if x4 = 0 then
 (k16 σ41 x0 x1 x2 x3 0 x5 (x6 + 1))
 else
 (if x9 = 0 then
 (k16 σ41 x0 x1 x2 x3 0 x5 (x6 + 1))
 else
 (k16 σ41 x0 x1 x2 x3 1 x5 (x6 + 1)))
def fX8_checks_247 (fu : Nat) (k16 : hs_T → Nat → Int32 → Int32 → Int32 → Int32 → Int32 → Int32 → Option (Int32 × hs_T)) (σ : hs_T) (x0 : Nat) (x1 : Int32) (x2 : Int32) (x3 : Int32) (x4 : Int32) (x6 : Int32) (x8 : Int32) (x9 : Int32) (y0 : Int32) : Option (Int32 × hs_T) :=
 (hs_gN σ 10 x0 35).bind fun n39 =>
 if x9 = 0 then
 (fX8_checks_265 fu k16 σ x0 x1 x2 x3 x4 y0 x6 x9 0 x8 n39)
 else
 (fX8_checks_265 fu k16 σ x0 x1 x2 x3 x4 y0 x6 x9 1 x8 n39)
def fX8_checks_242 (fu : Nat) (k16 : hs_T → Nat → Int32 → Int32 → Int32 → Int32 → Int32 → Int32 → Option (Int32 × hs_T)) (σ : hs_T) (x0 : Nat) (x1 : Int32) (x2 : Int32) (x3 : Int32) (x4 : Int32) (x6 : Int32) (x8 : Int32) (x9 : Int32) : Option (Int32 × hs_T) :=
 fX8_checks_247 fu k16 σ x0 x1 x2 x3 x4 x6 x8 x9 1
def fX8_checks_229 (fu : Nat) (k16 : hs_T → Nat → Int32 → Int32 → Int32 → Int32 → Int32 → Int32 → Option (Int32 × hs_T)) (σ : hs_T) (x0 : Nat) (x1 : Int32) (x2 : Int32) (x3 : Int32) (x4 : Int32) (x5 : Int32) (x6 : Int32) (x7 : Int32) (x8 : Int32) (y0 : Int32) : Option (Int32 × hs_T) :=
 if x5 = 0 then
 (if x7 = 1 then
 (fX8_checks_242 fu k16 σ x0 x1 x2 x3 x4 x6 x8 y0)
 else
 (fX8_checks_247 fu k16 σ x0 x1 x2 x3 x4 x6 x8 y0 0))
 else
 (fX8_checks_242 fu k16 σ x0 x1 x2 x3 x4 x6 x8 y0)
def fX8_checks_224 (fu : Nat) (k16 : hs_T → Nat → Int32 → Int32 → Int32 → Int32 → Int32 → Int32 → Option (Int32 × hs_T)) (σ : hs_T) (x0 : Nat) (x1 : Int32) (x2 : Int32) (x3 : Int32) (x4 : Int32) (x5 : Int32) (x6 : Int32) (x7 : Int32) (x8 : Int32) : Option (Int32 × hs_T) :=
 fX8_checks_229 fu k16 σ x0 x1 x2 x3 x4 x5 x6 x7 x8 1
def fX8_checks_86 (fu : Nat) (k16 : hs_T → Nat → Int32 → Int32 → Int32 → Int32 → Int32 → Int32 → Option (Int32 × hs_T)) (σ : hs_T) (x0 : Nat) (x1 : Int32) (x2 : Int32) (x3 : Int32) (x4 : Int32) (x5 : Int32) (x6 : Int32) (x7 : Int32) (x8 : Int32) (y0 : Int32) (y1 : Int32) (y2 : Nat) : Option (Int32 × hs_T) :=
 (hs_st σ 11 y2 y1 y0).bind fun σ19 =>
 (hs_gN σ19 10 x0 34).bind fun n22 =>
 (hs_gN σ19 10 x0 33).bind fun n24 =>
 (hs_ld σ19 11 n24 x8).bind fun v25 =>
 (hs_ck σ19 10 x0).bind fun _ =>
 hs_b2 (fX8_runs fu σ19 x0 x2 (x7 + 1) v25) fun v30 σ28 =>
 (hs_st σ28 11 n22 x8 v30).bind fun σ31 =>
 if x7 = 0 then
 ((hs_gN σ31 10 x0 34).bind fun n70 =>
 (hs_ld σ31 11 n70 x8).bind fun v71 =>
 (hs_gN σ31 10 x0 17).bind fun n74 =>
 (hs_ld σ31 11 n74 (4 + (x2 - x2 / 3 * 3))).bind fun v75 =>
 if v71 = ((x3 + v75) - (x3 + v75) / 10000 * 10000) then
 (fX8_checks_229 fu k16 σ31 x0 x1 x2 x3 x4 x5 x6 x7 x8 1)
 else
 (fX8_checks_229 fu k16 σ31 x0 x1 x2 x3 x4 x5 x6 x7 x8 0))
 else
 (if x7 = 1 then
 ((hs_gN σ31 10 x0 34).bind fun n65 =>
 (hs_ld σ31 11 n65 x8).bind fun v66 =>
 if v66 = 0 then
 (fX8_checks_229 fu k16 σ31 x0 x1 x2 x3 x4 x5 x6 x7 x8 1)
 else
 (fX8_checks_229 fu k16 σ31 x0 x1 x2 x3 x4 x5 x6 x7 x8 0))
 else
 (if x5 = 0 then
 (if x1 = 0 then
 (fX8_checks_224 fu k16 σ31 x0 x1 x2 x3 x4 x5 x6 x7 x8)
 else
 ((hs_gN σ31 10 x0 34).bind fun n47 =>
 (hs_ld σ31 11 n47 x8).bind fun v48 =>
 (hs_ck σ31 10 x0).bind fun _ =>
 hs_b2 (fX8_flagOf fu σ31 x0 (x1 - 1) x2) fun v53 σ51 =>
 if v48 = v53 then
 (fX8_checks_224 fu k16 σ51 x0 x1 x2 x3 x4 x5 x6 x7 x8)
 else
 (fX8_checks_229 fu k16 σ51 x0 x1 x2 x3 x4 x5 x6 x7 x8 0)))
 else
 ((hs_gN σ31 10 x0 34).bind fun n56 =>
 (hs_ld σ31 11 n56 x8).bind fun v57 =>
 (hs_ck σ31 10 x0).bind fun _ =>
 hs_b2 (fX8_flagOf fu σ31 x0 x1 x2) fun v62 σ60 =>
 if v57 = v62 then
 (fX8_checks_229 fu k16 σ60 x0 x1 x2 x3 x4 x5 x6 x7 x8 1)
 else
 (fX8_checks_229 fu k16 σ60 x0 x1 x2 x3 x4 x5 x6 x7 x8 0))))
def fX8_checks_16b (fu : Nat)  (k16 : hs_T → Nat → Int32 → Int32 → Int32 → Int32 → Int32 → Int32 → Option (Int32 × hs_T)) (σ : hs_T) (x0 : Nat) (x1 : Int32) (x2 : Int32) (x3 : Int32) (x4 : Int32) (x5 : Int32) (x6 : Int32) : Option (Int32 × hs_T) :=
 if 3 ≤ x6 then
 ((hs_bz x4).bind fun _ =>
 some (x4, σ))
 else
 ((hs_gN σ 10 x0 36).bind fun n8 =>
 (hs_ld σ 11 n8 ((3 * (x3 - x3 / 6 * 6)) + x6)).bind fun v9 =>
 (hs_gN σ 10 x0 32).bind fun n12 =>
 (hs_st σ 11 n12 ((3 * x2) + x6) v9).bind fun σ13 =>
 (hs_gN σ13 10 x0 33).bind fun n16 =>
 if v9 = 0 then
 (fX8_checks_86 fu k16 σ13 x0 x1 x2 x3 x4 x5 x6 v9 ((3 * x2) + x6) x3 ((3 * x2) + x6) n16)
 else
 (if v9 = 1 then
 ((hs_ck σ13 10 x0).bind fun _ =>
 hs_b2 (fX8_flagOf fu σ13 x0 x1 x2) fun v81 σ79 =>
 fX8_checks_86 fu k16 σ79 x0 x1 x2 x3 x4 x5 x6 v9 ((3 * x2) + x6) v81 ((3 * x2) + x6) n16)
 else
 (fX8_checks_86 fu k16 σ13 x0 x1 x2 x3 x4 x5 x6 v9 ((3 * x2) + x6) 0 ((3 * x2) + x6) n16)))
def fX8_checks_16 (fu : Nat)  (σ : hs_T) (x0 : Nat) (x1 : Int32) (x2 : Int32) (x3 : Int32) (x4 : Int32) (x5 : Int32) (x6 : Int32) : Option (Int32 × hs_T) :=
   hs_lp (fun (k : hs_T × Nat × Int32 × Int32 × Int32 × Int32 × Int32 × Int32 → Option (Int32 × hs_T)) (a : hs_T × Nat × Int32 × Int32 × Int32 × Int32 × Int32 × Int32) => fX8_checks_16b fu  (fun σ x0 x1 x2 x3 x4 x5 x6 => k (σ, x0, x1, x2, x3, x4, x5, x6)) a.1 a.2.1 a.2.2.1 a.2.2.2.1 a.2.2.2.2.1 a.2.2.2.2.2.1 a.2.2.2.2.2.2.1 a.2.2.2.2.2.2.2) fu (σ, x0, x1, x2, x3, x4, x5, x6)
def fX8_checks (fu : Nat) (σ : hs_T) (o : Nat) (a1 : Int32) (a2 : Int32) : Option (Int32 × hs_T) :=
 (hs_ck σ 10 o).bind fun _ =>
 hs_b2 (fX8_mix fu σ o a1 a2) fun v4 σ2 =>
 fX8_checks_16 fu σ2 o a1 a2 v4 1 0 0
section SX8_checks
variable {p : Program} {l : Launch} {e : Env} {s : State} {m : MethodId} {args : Array Value} {below : List Frame} {meth : Method} {c : Code} {X : hs_X} {ad : Nat → Nat} {A : Nat → Prop} {r : Int32} {τ : hs_T}
set_option maxRecDepth 100000 in
set_option maxHeartbeats 4000000 in
theorem wX8_checks_265 (fu : Nat) (C : hs_Cx p s m args meth c X A yX8_checks cX8_checks 10 (some .boolean) wsX8_checks) (hem : ad hs_em = X.2.2.1.2.2.2) (k16 : hs_T → Nat → Int32 → Int32 → Int32 → Int32 → Int32 → Int32 → Option (Int32 × hs_T)) (hk16 : ∀ (σ : hs_T) (x0 : Nat) (x1 : Int32) (x2 : Int32) (x3 : Int32) (x4 : Int32) (x5 : Int32) (x6 : Int32) (H : Heap) (locs : List Loc) (ls : Array Slot), k16 σ x0 x1 x2 x3 x4 x5 x6 = some (r, τ) → hs_H X.1 X.2.1 ad A σ H → va_S A s.heap H locs → lv_has ls 10 [(0, .ref (ad x0)), (1, .int x1), (2, .int x2), (3, .int x3), (4, .int x4), (5, .int x5), (6, .int x6)] → W p l e rmX8_checks s m args below meth c H locs 0 0 (MQ below (hs_Q0 hs_tvi X ad A r τ) args s 0 0 A) (F0 m 16 ls [])) {H : Heap} {locs : List Loc} {ls : Array Slot} (σ : hs_T) (x0 : Nat) (x1 : Int32) (x2 : Int32) (x3 : Int32) (x4 : Int32) (x5 : Int32) (x6 : Int32) (x9 : Int32) (y0 : Int32) (y1 : Int32) (y2 : Nat) (hf : fX8_checks_265 fu k16 σ x0 x1 x2 x3 x4 x5 x6 x9 y0 y1 y2 = some (r, τ)) (hB : hs_H X.1 X.2.1 ad A σ H) (hS : va_S A s.heap H locs) (hl : lv_has ls 10 [(0, .ref (ad x0)), (1, .int x1), (2, .int x2), (3, .int x3), (4, .int x4), (5, .int x5), (6, .int x6), (9, .int x9)]) : W p l e rmX8_checks s m args below meth c H locs 0 0 (MQ below (hs_Q0 hs_tvi X ad A r τ) args s 0 0 A) (F0 m 265 ls [.int y0, .int y1, .ref (ad y2)]) := by
  obtain ⟨hx, hb, hml, hr, hts, hown, hlk, hnm, hV, hA0, hA⟩ := id C
  have hown : s.vm.findClass RX8 = some m.cls := hown
  have hK := hV.1
  have hNw := hV.2.1
  unfold fX8_checks_265 at hf
  obtain ⟨σ41, h42, hf⟩ := hs_bi hf
  refine x_iast hx hb hK hB hS h42 dX8_checks_265 (fun H locs hB hS => ?_)
  refine lv_iload hx hb dX8_checks_266 (lv_at hl 4 rfl) ?_
  refine lv_if_eq (tgt := 280) hx hb dX8_checks_268 (by decide) (fun h43 => ?_) (fun h43 => ?_)
  · have hf := hs_tt h43 hf
    refine lv_iconst (v := 0) hx hb dX8_checks_280 (by decide) ?_
    refine lv_istore (lv' := [(4, .int 0), (0, .ref (ad x0)), (1, .int x1), (2, .int x2), (3, .int x3), (5, .int x5), (6, .int x6), (9, .int x9)]) hx hb dX8_checks_281 hl (by decide) rfl (fun ls hl => ?_)
    refine lv_iinc (v := (x6 + 1)) (lv' := [(6, .int (x6 + 1)), (4, .int 0), (0, .ref (ad x0)), (1, .int x1), (2, .int x2), (3, .int x3), (5, .int x5), (9, .int x9)]) hx hb dX8_checks_283 hl (k := 6) rfl rfl (by decide) rfl (fun ls hl => ?_)
    refine lv_goto (tgt := 16) hx hb dX8_checks_286 (by decide) ?_
    exact hk16 σ41 x0 x1 x2 x3 0 x5 (x6 + 1) _ _ _ hf hB hS (lv_sub hl [2, 3, 4, 5, 1, 6, 0] rfl)
  · have hf := hs_ff h43 hf
    refine lv_iload hx hb dX8_checks_271 (lv_at hl 7 rfl) ?_
    refine lv_if_eq (tgt := 280) hx hb dX8_checks_273 (by decide) (fun h44 => ?_) (fun h44 => ?_)
    · have hf := hs_tt h44 hf
      refine lv_iconst (v := 0) hx hb dX8_checks_280 (by decide) ?_
      refine lv_istore (lv' := [(4, .int 0), (0, .ref (ad x0)), (1, .int x1), (2, .int x2), (3, .int x3), (5, .int x5), (6, .int x6), (9, .int x9)]) hx hb dX8_checks_281 hl (by decide) rfl (fun ls hl => ?_)
      refine lv_iinc (v := (x6 + 1)) (lv' := [(6, .int (x6 + 1)), (4, .int 0), (0, .ref (ad x0)), (1, .int x1), (2, .int x2), (3, .int x3), (5, .int x5), (9, .int x9)]) hx hb dX8_checks_283 hl (k := 6) rfl rfl (by decide) rfl (fun ls hl => ?_)
      refine lv_goto (tgt := 16) hx hb dX8_checks_286 (by decide) ?_
      exact hk16 σ41 x0 x1 x2 x3 0 x5 (x6 + 1) _ _ _ hf hB hS (lv_sub hl [2, 3, 4, 5, 1, 6, 0] rfl)
    · have hf := hs_ff h44 hf
      refine lv_iconst (v := 1) hx hb dX8_checks_276 (by decide) ?_
      refine lv_goto (tgt := 281) hx hb dX8_checks_277 (by decide) ?_
      refine lv_istore (lv' := [(4, .int 1), (0, .ref (ad x0)), (1, .int x1), (2, .int x2), (3, .int x3), (5, .int x5), (6, .int x6), (9, .int x9)]) hx hb dX8_checks_281 hl (by decide) rfl (fun ls hl => ?_)
      refine lv_iinc (v := (x6 + 1)) (lv' := [(6, .int (x6 + 1)), (4, .int 1), (0, .ref (ad x0)), (1, .int x1), (2, .int x2), (3, .int x3), (5, .int x5), (9, .int x9)]) hx hb dX8_checks_283 hl (k := 6) rfl rfl (by decide) rfl (fun ls hl => ?_)
      refine lv_goto (tgt := 16) hx hb dX8_checks_286 (by decide) ?_
      exact hk16 σ41 x0 x1 x2 x3 1 x5 (x6 + 1) _ _ _ hf hB hS (lv_sub hl [2, 3, 4, 5, 1, 6, 0] rfl)
set_option maxRecDepth 100000 in
set_option maxHeartbeats 4000000 in
theorem wX8_checks_247 (fu : Nat) (C : hs_Cx p s m args meth c X A yX8_checks cX8_checks 10 (some .boolean) wsX8_checks) (hem : ad hs_em = X.2.2.1.2.2.2) (k16 : hs_T → Nat → Int32 → Int32 → Int32 → Int32 → Int32 → Int32 → Option (Int32 × hs_T)) (hk16 : ∀ (σ : hs_T) (x0 : Nat) (x1 : Int32) (x2 : Int32) (x3 : Int32) (x4 : Int32) (x5 : Int32) (x6 : Int32) (H : Heap) (locs : List Loc) (ls : Array Slot), k16 σ x0 x1 x2 x3 x4 x5 x6 = some (r, τ) → hs_H X.1 X.2.1 ad A σ H → va_S A s.heap H locs → lv_has ls 10 [(0, .ref (ad x0)), (1, .int x1), (2, .int x2), (3, .int x3), (4, .int x4), (5, .int x5), (6, .int x6)] → W p l e rmX8_checks s m args below meth c H locs 0 0 (MQ below (hs_Q0 hs_tvi X ad A r τ) args s 0 0 A) (F0 m 16 ls [])) {H : Heap} {locs : List Loc} {ls : Array Slot} (σ : hs_T) (x0 : Nat) (x1 : Int32) (x2 : Int32) (x3 : Int32) (x4 : Int32) (x6 : Int32) (x8 : Int32) (x9 : Int32) (y0 : Int32) (hf : fX8_checks_247 fu k16 σ x0 x1 x2 x3 x4 x6 x8 x9 y0 = some (r, τ)) (hB : hs_H X.1 X.2.1 ad A σ H) (hS : va_S A s.heap H locs) (hl : lv_has ls 10 [(0, .ref (ad x0)), (1, .int x1), (2, .int x2), (3, .int x3), (4, .int x4), (6, .int x6), (8, .int x8), (9, .int x9)]) : W p l e rmX8_checks s m args below meth c H locs 0 0 (MQ below (hs_Q0 hs_tvi X ad A r τ) args s 0 0 A) (F0 m 247 ls [.int y0]) := by
  obtain ⟨hx, hb, hml, hr, hts, hown, hlk, hnm, hV, hA0, hA⟩ := id C
  have hown : s.vm.findClass RX8 = some m.cls := hown
  have hK := hV.1
  have hNw := hV.2.1
  unfold fX8_checks_247 at hf
  refine lv_istore (lv' := [(5, .int y0), (0, .ref (ad x0)), (1, .int x1), (2, .int x2), (3, .int x3), (4, .int x4), (6, .int x6), (8, .int x8), (9, .int x9)]) hx hb dX8_checks_247 hl (by decide) rfl (fun ls hl => ?_)
  refine lv_aload_n hx hb dX8_checks_249 rfl (lv_at hl 1 rfl) ?_
  obtain ⟨n39, h38, hf⟩ := hs_bi hf
  refine x_getN hx hb hts inX8_checks_X8 hown hK hB (by decide) rfl (k := 35) (by decide) rfl h38 (hts _ lkX8_checks_4) (fun _ h9 => h9) dX8_checks_250 ?_
  refine lv_iload hx hb dX8_checks_253 (lv_at hl 7 rfl) ?_
  refine lv_iload hx hb dX8_checks_255 (lv_at hl 8 rfl) ?_
  refine lv_if_eq (tgt := 264) hx hb dX8_checks_257 (by decide) (fun h40 => ?_) (fun h40 => ?_)
  · have hf := hs_tt h40 hf
    refine lv_iconst (v := 0) hx hb dX8_checks_264 (by decide) ?_
    exact wX8_checks_265 fu C hem k16 hk16 σ x0 x1 x2 x3 x4 y0 x6 x9 0 x8 n39 hf hB hS (lv_sub hl [1, 2, 3, 4, 5, 0, 6, 8] rfl)
  · have hf := hs_ff h40 hf
    refine lv_iconst (v := 1) hx hb dX8_checks_260 (by decide) ?_
    refine lv_goto (tgt := 265) hx hb dX8_checks_261 (by decide) ?_
    exact wX8_checks_265 fu C hem k16 hk16 σ x0 x1 x2 x3 x4 y0 x6 x9 1 x8 n39 hf hB hS (lv_sub hl [1, 2, 3, 4, 5, 0, 6, 8] rfl)
set_option maxRecDepth 100000 in
set_option maxHeartbeats 4000000 in
theorem wX8_checks_242 (fu : Nat) (C : hs_Cx p s m args meth c X A yX8_checks cX8_checks 10 (some .boolean) wsX8_checks) (hem : ad hs_em = X.2.2.1.2.2.2) (k16 : hs_T → Nat → Int32 → Int32 → Int32 → Int32 → Int32 → Int32 → Option (Int32 × hs_T)) (hk16 : ∀ (σ : hs_T) (x0 : Nat) (x1 : Int32) (x2 : Int32) (x3 : Int32) (x4 : Int32) (x5 : Int32) (x6 : Int32) (H : Heap) (locs : List Loc) (ls : Array Slot), k16 σ x0 x1 x2 x3 x4 x5 x6 = some (r, τ) → hs_H X.1 X.2.1 ad A σ H → va_S A s.heap H locs → lv_has ls 10 [(0, .ref (ad x0)), (1, .int x1), (2, .int x2), (3, .int x3), (4, .int x4), (5, .int x5), (6, .int x6)] → W p l e rmX8_checks s m args below meth c H locs 0 0 (MQ below (hs_Q0 hs_tvi X ad A r τ) args s 0 0 A) (F0 m 16 ls [])) {H : Heap} {locs : List Loc} {ls : Array Slot} (σ : hs_T) (x0 : Nat) (x1 : Int32) (x2 : Int32) (x3 : Int32) (x4 : Int32) (x6 : Int32) (x8 : Int32) (x9 : Int32) (hf : fX8_checks_242 fu k16 σ x0 x1 x2 x3 x4 x6 x8 x9 = some (r, τ)) (hB : hs_H X.1 X.2.1 ad A σ H) (hS : va_S A s.heap H locs) (hl : lv_has ls 10 [(0, .ref (ad x0)), (1, .int x1), (2, .int x2), (3, .int x3), (4, .int x4), (6, .int x6), (8, .int x8), (9, .int x9)]) : W p l e rmX8_checks s m args below meth c H locs 0 0 (MQ below (hs_Q0 hs_tvi X ad A r τ) args s 0 0 A) (F0 m 242 ls []) := by
  obtain ⟨hx, hb, hml, hr, hts, hown, hlk, hnm, hV, hA0, hA⟩ := id C
  have hown : s.vm.findClass RX8 = some m.cls := hown
  have hK := hV.1
  have hNw := hV.2.1
  unfold fX8_checks_242 at hf
  refine lv_iconst (v := 1) hx hb dX8_checks_242 (by decide) ?_
  refine lv_goto (tgt := 247) hx hb dX8_checks_243 (by decide) ?_
  exact wX8_checks_247 fu C hem k16 hk16 σ x0 x1 x2 x3 x4 x6 x8 x9 1 hf hB hS hl
set_option maxRecDepth 100000 in
set_option maxHeartbeats 4000000 in
theorem wX8_checks_229 (fu : Nat) (C : hs_Cx p s m args meth c X A yX8_checks cX8_checks 10 (some .boolean) wsX8_checks) (hem : ad hs_em = X.2.2.1.2.2.2) (k16 : hs_T → Nat → Int32 → Int32 → Int32 → Int32 → Int32 → Int32 → Option (Int32 × hs_T)) (hk16 : ∀ (σ : hs_T) (x0 : Nat) (x1 : Int32) (x2 : Int32) (x3 : Int32) (x4 : Int32) (x5 : Int32) (x6 : Int32) (H : Heap) (locs : List Loc) (ls : Array Slot), k16 σ x0 x1 x2 x3 x4 x5 x6 = some (r, τ) → hs_H X.1 X.2.1 ad A σ H → va_S A s.heap H locs → lv_has ls 10 [(0, .ref (ad x0)), (1, .int x1), (2, .int x2), (3, .int x3), (4, .int x4), (5, .int x5), (6, .int x6)] → W p l e rmX8_checks s m args below meth c H locs 0 0 (MQ below (hs_Q0 hs_tvi X ad A r τ) args s 0 0 A) (F0 m 16 ls [])) {H : Heap} {locs : List Loc} {ls : Array Slot} (σ : hs_T) (x0 : Nat) (x1 : Int32) (x2 : Int32) (x3 : Int32) (x4 : Int32) (x5 : Int32) (x6 : Int32) (x7 : Int32) (x8 : Int32) (y0 : Int32) (hf : fX8_checks_229 fu k16 σ x0 x1 x2 x3 x4 x5 x6 x7 x8 y0 = some (r, τ)) (hB : hs_H X.1 X.2.1 ad A σ H) (hS : va_S A s.heap H locs) (hl : lv_has ls 10 [(0, .ref (ad x0)), (1, .int x1), (2, .int x2), (3, .int x3), (4, .int x4), (5, .int x5), (6, .int x6), (7, .int x7), (8, .int x8)]) : W p l e rmX8_checks s m args below meth c H locs 0 0 (MQ below (hs_Q0 hs_tvi X ad A r τ) args s 0 0 A) (F0 m 229 ls [.int y0]) := by
  obtain ⟨hx, hb, hml, hr, hts, hown, hlk, hnm, hV, hA0, hA⟩ := id C
  have hown : s.vm.findClass RX8 = some m.cls := hown
  have hK := hV.1
  have hNw := hV.2.1
  unfold fX8_checks_229 at hf
  refine lv_istore (lv' := [(9, .int y0), (0, .ref (ad x0)), (1, .int x1), (2, .int x2), (3, .int x3), (4, .int x4), (5, .int x5), (6, .int x6), (7, .int x7), (8, .int x8)]) hx hb dX8_checks_229 hl (by decide) rfl (fun ls hl => ?_)
  refine lv_iload hx hb dX8_checks_231 (lv_at hl 6 rfl) ?_
  refine lv_if_ne (tgt := 242) hx hb dX8_checks_233 (by decide) (fun h37 => ?_) (fun h37 => ?_)
  · have hf := hs_ff h37 hf
    exact wX8_checks_242 fu C hem k16 hk16 σ x0 x1 x2 x3 x4 x6 x8 y0 hf hB hS (lv_sub hl [1, 2, 3, 4, 5, 7, 9, 0] rfl)
  · have hf := hs_tt h37 hf
    refine lv_iload hx hb dX8_checks_236 (lv_at hl 8 rfl) ?_
    refine lv_iconst (v := 1) hx hb dX8_checks_238 (by decide) ?_
    refine lv_icmp_ne (tgt := 246) hx hb dX8_checks_239 (by decide) (fun h45 => ?_) (fun h45 => ?_)
    · have hf := hs_ff h45 hf
      refine lv_iconst (v := 0) hx hb dX8_checks_246 (by decide) ?_
      exact wX8_checks_247 fu C hem k16 hk16 σ x0 x1 x2 x3 x4 x6 x8 y0 0 hf hB hS (lv_sub hl [1, 2, 3, 4, 5, 7, 9, 0] rfl)
    · have hf := hs_tt h45 hf
      exact wX8_checks_242 fu C hem k16 hk16 σ x0 x1 x2 x3 x4 x6 x8 y0 hf hB hS (lv_sub hl [1, 2, 3, 4, 5, 7, 9, 0] rfl)
set_option maxRecDepth 100000 in
set_option maxHeartbeats 4000000 in
theorem wX8_checks_224 (fu : Nat) (C : hs_Cx p s m args meth c X A yX8_checks cX8_checks 10 (some .boolean) wsX8_checks) (hem : ad hs_em = X.2.2.1.2.2.2) (k16 : hs_T → Nat → Int32 → Int32 → Int32 → Int32 → Int32 → Int32 → Option (Int32 × hs_T)) (hk16 : ∀ (σ : hs_T) (x0 : Nat) (x1 : Int32) (x2 : Int32) (x3 : Int32) (x4 : Int32) (x5 : Int32) (x6 : Int32) (H : Heap) (locs : List Loc) (ls : Array Slot), k16 σ x0 x1 x2 x3 x4 x5 x6 = some (r, τ) → hs_H X.1 X.2.1 ad A σ H → va_S A s.heap H locs → lv_has ls 10 [(0, .ref (ad x0)), (1, .int x1), (2, .int x2), (3, .int x3), (4, .int x4), (5, .int x5), (6, .int x6)] → W p l e rmX8_checks s m args below meth c H locs 0 0 (MQ below (hs_Q0 hs_tvi X ad A r τ) args s 0 0 A) (F0 m 16 ls [])) {H : Heap} {locs : List Loc} {ls : Array Slot} (σ : hs_T) (x0 : Nat) (x1 : Int32) (x2 : Int32) (x3 : Int32) (x4 : Int32) (x5 : Int32) (x6 : Int32) (x7 : Int32) (x8 : Int32) (hf : fX8_checks_224 fu k16 σ x0 x1 x2 x3 x4 x5 x6 x7 x8 = some (r, τ)) (hB : hs_H X.1 X.2.1 ad A σ H) (hS : va_S A s.heap H locs) (hl : lv_has ls 10 [(0, .ref (ad x0)), (1, .int x1), (2, .int x2), (3, .int x3), (4, .int x4), (5, .int x5), (6, .int x6), (7, .int x7), (8, .int x8)]) : W p l e rmX8_checks s m args below meth c H locs 0 0 (MQ below (hs_Q0 hs_tvi X ad A r τ) args s 0 0 A) (F0 m 224 ls []) := by
  obtain ⟨hx, hb, hml, hr, hts, hown, hlk, hnm, hV, hA0, hA⟩ := id C
  have hown : s.vm.findClass RX8 = some m.cls := hown
  have hK := hV.1
  have hNw := hV.2.1
  unfold fX8_checks_224 at hf
  refine lv_iconst (v := 1) hx hb dX8_checks_224 (by decide) ?_
  refine lv_goto (tgt := 229) hx hb dX8_checks_225 (by decide) ?_
  exact wX8_checks_229 fu C hem k16 hk16 σ x0 x1 x2 x3 x4 x5 x6 x7 x8 1 hf hB hS hl
set_option maxRecDepth 100000 in
set_option maxHeartbeats 4000000 in
theorem wX8_checks_86 (fu : Nat) (C : hs_Cx p s m args meth c X A yX8_checks cX8_checks 10 (some .boolean) wsX8_checks) (hem : ad hs_em = X.2.2.1.2.2.2) (k16 : hs_T → Nat → Int32 → Int32 → Int32 → Int32 → Int32 → Int32 → Option (Int32 × hs_T)) (hk16 : ∀ (σ : hs_T) (x0 : Nat) (x1 : Int32) (x2 : Int32) (x3 : Int32) (x4 : Int32) (x5 : Int32) (x6 : Int32) (H : Heap) (locs : List Loc) (ls : Array Slot), k16 σ x0 x1 x2 x3 x4 x5 x6 = some (r, τ) → hs_H X.1 X.2.1 ad A σ H → va_S A s.heap H locs → lv_has ls 10 [(0, .ref (ad x0)), (1, .int x1), (2, .int x2), (3, .int x3), (4, .int x4), (5, .int x5), (6, .int x6)] → W p l e rmX8_checks s m args below meth c H locs 0 0 (MQ below (hs_Q0 hs_tvi X ad A r τ) args s 0 0 A) (F0 m 16 ls [])) {H : Heap} {locs : List Loc} {ls : Array Slot} (σ : hs_T) (x0 : Nat) (x1 : Int32) (x2 : Int32) (x3 : Int32) (x4 : Int32) (x5 : Int32) (x6 : Int32) (x7 : Int32) (x8 : Int32) (y0 : Int32) (y1 : Int32) (y2 : Nat) (hf : fX8_checks_86 fu k16 σ x0 x1 x2 x3 x4 x5 x6 x7 x8 y0 y1 y2 = some (r, τ)) (hB : hs_H X.1 X.2.1 ad A σ H) (hS : va_S A s.heap H locs) (hl : lv_has ls 10 [(0, .ref (ad x0)), (1, .int x1), (2, .int x2), (3, .int x3), (4, .int x4), (5, .int x5), (6, .int x6), (7, .int x7), (8, .int x8)]) : W p l e rmX8_checks s m args below meth c H locs 0 0 (MQ below (hs_Q0 hs_tvi X ad A r τ) args s 0 0 A) (F0 m 86 ls [.int y0, .int y1, .ref (ad y2)]) := by
  obtain ⟨hx, hb, hml, hr, hts, hown, hlk, hnm, hV, hA0, hA⟩ := id C
  have hown : s.vm.findClass RX8 = some m.cls := hown
  have hK := hV.1
  have hNw := hV.2.1
  unfold fX8_checks_86 at hf
  obtain ⟨σ19, h20, hf⟩ := hs_bi hf
  refine x_iast hx hb hK hB hS h20 dX8_checks_86 (fun H locs hB hS => ?_)
  refine lv_aload_n hx hb dX8_checks_87 rfl (lv_at hl 0 rfl) ?_
  obtain ⟨n22, h21, hf⟩ := hs_bi hf
  refine x_getN hx hb hts inX8_checks_X8 hown hK hB (by decide) rfl (k := 34) (by decide) rfl h21 (hts _ lkX8_checks_3) (fun _ h9 => h9) dX8_checks_88 ?_
  refine lv_iload hx hb dX8_checks_91 (lv_at hl 8 rfl) ?_
  refine lv_aload_n hx hb dX8_checks_93 rfl (lv_at hl 0 rfl) ?_
  refine lv_iload_n hx hb dX8_checks_94 rfl (lv_at hl 2 rfl) ?_
  refine lv_iload hx hb dX8_checks_95 (lv_at hl 7 rfl) ?_
  refine lv_iconst (v := 1) hx hb dX8_checks_97 (by decide) ?_
  refine lv_iadd hx hb dX8_checks_98 ?_
  refine lv_aload_n hx hb dX8_checks_99 rfl (lv_at hl 0 rfl) ?_
  obtain ⟨n24, h23, hf⟩ := hs_bi hf
  refine x_getN hx hb hts inX8_checks_X8 hown hK hB (by decide) rfl (k := 33) (by decide) rfl h23 (hts _ lkX8_checks_2) (fun _ h9 => h9) dX8_checks_100 ?_
  refine lv_iload hx hb dX8_checks_103 (lv_at hl 8 rfl) ?_
  obtain ⟨v25, h26, hf⟩ := hs_bi hf
  refine x_iald hx hb hK hB h26 dX8_checks_105 ?_
  obtain ⟨_, h29, hf⟩ := hs_bi hf
  obtain ⟨v30, σ28, h27, hf⟩ := hs_b2i hf
  refine hs_call0 (va_runV (As := [.int x2, .int (x7 + 1), .int v25]) (rest := [.int x8, .ref (ad n22)]) ⟨hx, hb, hml, hown, hts⟩ (ctX8_runs l fu σ19 x0 x2 (x7 + 1) v25 X ad H.size _ _ h27) (cwV 3 hts gX8_checks_X8_runs rfl rfl rfl (by decide +kernel) ⟨Nat.le_of_ble_eq_true rfl, Nat.le_of_ble_eq_true rfl⟩) (hs_preV (hs_recv hK hB (hs_ck_i h29) (by decide) rfl) hV hB hS hA0 hA hem) rfl rfl hl.1 rfl (lv_room (Nat.le_of_ble_eq_true rfl)) dX8_checks_106 ⟨Nat.le_of_ble_eq_true rfl, Nat.le_of_ble_eq_true rfl⟩) hB hS hA rfl (fun H locs hB hS => ?_)
  obtain ⟨σ31, h32, hf⟩ := hs_bi hf
  refine x_iast hx hb hK hB hS h32 dX8_checks_109 (fun H locs hB hS => ?_)
  refine lv_iload hx hb dX8_checks_110 (lv_at hl 7 rfl) ?_
  refine lv_if_ne (tgt := 149) hx hb dX8_checks_112 (by decide) (fun h33 => ?_) (fun h33 => ?_)
  · have hf := hs_ff h33 hf
    refine lv_iload hx hb dX8_checks_149 (lv_at hl 7 rfl) ?_
    refine lv_iconst (v := 1) hx hb dX8_checks_151 (by decide) ?_
    refine lv_icmp_ne (tgt := 173) hx hb dX8_checks_152 (by decide) (fun h34 => ?_) (fun h34 => ?_)
    · have hf := hs_ff h34 hf
      refine lv_iload hx hb dX8_checks_173 (lv_at hl 5 rfl) ?_
      refine lv_if_eq (tgt := 202) hx hb dX8_checks_175 (by decide) (fun h35 => ?_) (fun h35 => ?_)
      · have hf := hs_tt h35 hf
        refine lv_iload_n hx hb dX8_checks_202 rfl (lv_at hl 1 rfl) ?_
        refine lv_if_eq (tgt := 224) hx hb dX8_checks_203 (by decide) (fun h36 => ?_) (fun h36 => ?_)
        · have hf := hs_tt h36 hf
          exact wX8_checks_224 fu C hem k16 hk16 σ31 x0 x1 x2 x3 x4 x5 x6 x7 x8 hf hB hS hl
        · have hf := hs_ff h36 hf
          refine lv_aload_n hx hb dX8_checks_206 rfl (lv_at hl 0 rfl) ?_
          obtain ⟨n47, h46, hf⟩ := hs_bi hf
          refine x_getN hx hb hts inX8_checks_X8 hown hK hB (by decide) rfl (k := 34) (by decide) rfl h46 (hts _ lkX8_checks_3) (fun _ h9 => h9) dX8_checks_207 ?_
          refine lv_iload hx hb dX8_checks_210 (lv_at hl 8 rfl) ?_
          obtain ⟨v48, h49, hf⟩ := hs_bi hf
          refine x_iald hx hb hK hB h49 dX8_checks_212 ?_
          refine lv_aload_n hx hb dX8_checks_213 rfl (lv_at hl 0 rfl) ?_
          refine lv_iload_n hx hb dX8_checks_214 rfl (lv_at hl 1 rfl) ?_
          refine lv_iconst (v := 1) hx hb dX8_checks_215 (by decide) ?_
          refine lv_isub hx hb dX8_checks_216 ?_
          refine lv_iload_n hx hb dX8_checks_217 rfl (lv_at hl 2 rfl) ?_
          obtain ⟨_, h52, hf⟩ := hs_bi hf
          obtain ⟨v53, σ51, h50, hf⟩ := hs_b2i hf
          refine hs_call0 (va_runV (As := [.int (x1 - 1), .int x2]) (rest := [.int v48]) ⟨hx, hb, hml, hown, hts⟩ (ctX8_flagOf l fu σ31 x0 (x1 - 1) x2 X ad H.size _ _ h50) (cwV 2 hts gX8_checks_X8_flagOf rfl rfl rfl (by decide +kernel) ⟨Nat.le_of_ble_eq_true rfl, Nat.le_of_ble_eq_true rfl⟩) (hs_preV (hs_recv hK hB (hs_ck_i h52) (by decide) rfl) hV hB hS hA0 hA hem) rfl rfl hl.1 rfl (lv_room (Nat.le_of_ble_eq_true rfl)) dX8_checks_218 ⟨Nat.le_of_ble_eq_true rfl, Nat.le_of_ble_eq_true rfl⟩) hB hS hA rfl (fun H locs hB hS => ?_)
          refine lv_icmp_ne (tgt := 228) hx hb dX8_checks_221 (by decide) (fun h54 => ?_) (fun h54 => ?_)
          · have hf := hs_ff h54 hf
            refine lv_iconst (v := 0) hx hb dX8_checks_228 (by decide) ?_
            exact wX8_checks_229 fu C hem k16 hk16 σ51 x0 x1 x2 x3 x4 x5 x6 x7 x8 0 hf hB hS hl
          · have hf := hs_tt h54 hf
            exact wX8_checks_224 fu C hem k16 hk16 σ51 x0 x1 x2 x3 x4 x5 x6 x7 x8 hf hB hS hl
      · have hf := hs_ff h35 hf
        refine lv_aload_n hx hb dX8_checks_178 rfl (lv_at hl 0 rfl) ?_
        obtain ⟨n56, h55, hf⟩ := hs_bi hf
        refine x_getN hx hb hts inX8_checks_X8 hown hK hB (by decide) rfl (k := 34) (by decide) rfl h55 (hts _ lkX8_checks_3) (fun _ h9 => h9) dX8_checks_179 ?_
        refine lv_iload hx hb dX8_checks_182 (lv_at hl 8 rfl) ?_
        obtain ⟨v57, h58, hf⟩ := hs_bi hf
        refine x_iald hx hb hK hB h58 dX8_checks_184 ?_
        refine lv_aload_n hx hb dX8_checks_185 rfl (lv_at hl 0 rfl) ?_
        refine lv_iload_n hx hb dX8_checks_186 rfl (lv_at hl 1 rfl) ?_
        refine lv_iload_n hx hb dX8_checks_187 rfl (lv_at hl 2 rfl) ?_
        obtain ⟨_, h61, hf⟩ := hs_bi hf
        obtain ⟨v62, σ60, h59, hf⟩ := hs_b2i hf
        refine hs_call0 (va_runV (As := [.int x1, .int x2]) (rest := [.int v57]) ⟨hx, hb, hml, hown, hts⟩ (ctX8_flagOf l fu σ31 x0 x1 x2 X ad H.size _ _ h59) (cwV 2 hts gX8_checks_X8_flagOf rfl rfl rfl (by decide +kernel) ⟨Nat.le_of_ble_eq_true rfl, Nat.le_of_ble_eq_true rfl⟩) (hs_preV (hs_recv hK hB (hs_ck_i h61) (by decide) rfl) hV hB hS hA0 hA hem) rfl rfl hl.1 rfl (lv_room (Nat.le_of_ble_eq_true rfl)) dX8_checks_188 ⟨Nat.le_of_ble_eq_true rfl, Nat.le_of_ble_eq_true rfl⟩) hB hS hA rfl (fun H locs hB hS => ?_)
        refine lv_icmp_ne (tgt := 198) hx hb dX8_checks_191 (by decide) (fun h63 => ?_) (fun h63 => ?_)
        · have hf := hs_ff h63 hf
          refine lv_iconst (v := 0) hx hb dX8_checks_198 (by decide) ?_
          refine lv_goto (tgt := 229) hx hb dX8_checks_199 (by decide) ?_
          exact wX8_checks_229 fu C hem k16 hk16 σ60 x0 x1 x2 x3 x4 x5 x6 x7 x8 0 hf hB hS hl
        · have hf := hs_tt h63 hf
          refine lv_iconst (v := 1) hx hb dX8_checks_194 (by decide) ?_
          refine lv_goto (tgt := 229) hx hb dX8_checks_195 (by decide) ?_
          exact wX8_checks_229 fu C hem k16 hk16 σ60 x0 x1 x2 x3 x4 x5 x6 x7 x8 1 hf hB hS hl
    · have hf := hs_tt h34 hf
      refine lv_aload_n hx hb dX8_checks_155 rfl (lv_at hl 0 rfl) ?_
      obtain ⟨n65, h64, hf⟩ := hs_bi hf
      refine x_getN hx hb hts inX8_checks_X8 hown hK hB (by decide) rfl (k := 34) (by decide) rfl h64 (hts _ lkX8_checks_3) (fun _ h9 => h9) dX8_checks_156 ?_
      refine lv_iload hx hb dX8_checks_159 (lv_at hl 8 rfl) ?_
      obtain ⟨v66, h67, hf⟩ := hs_bi hf
      refine x_iald hx hb hK hB h67 dX8_checks_161 ?_
      refine lv_if_ne (tgt := 169) hx hb dX8_checks_162 (by decide) (fun h68 => ?_) (fun h68 => ?_)
      · have hf := hs_ff h68 hf
        refine lv_iconst (v := 0) hx hb dX8_checks_169 (by decide) ?_
        refine lv_goto (tgt := 229) hx hb dX8_checks_170 (by decide) ?_
        exact wX8_checks_229 fu C hem k16 hk16 σ31 x0 x1 x2 x3 x4 x5 x6 x7 x8 0 hf hB hS hl
      · have hf := hs_tt h68 hf
        refine lv_iconst (v := 1) hx hb dX8_checks_165 (by decide) ?_
        refine lv_goto (tgt := 229) hx hb dX8_checks_166 (by decide) ?_
        exact wX8_checks_229 fu C hem k16 hk16 σ31 x0 x1 x2 x3 x4 x5 x6 x7 x8 1 hf hB hS hl
  · have hf := hs_tt h33 hf
    refine lv_aload_n hx hb dX8_checks_115 rfl (lv_at hl 0 rfl) ?_
    obtain ⟨n70, h69, hf⟩ := hs_bi hf
    refine x_getN hx hb hts inX8_checks_X8 hown hK hB (by decide) rfl (k := 34) (by decide) rfl h69 (hts _ lkX8_checks_3) (fun _ h9 => h9) dX8_checks_116 ?_
    refine lv_iload hx hb dX8_checks_119 (lv_at hl 8 rfl) ?_
    obtain ⟨v71, h72, hf⟩ := hs_bi hf
    refine x_iald hx hb hK hB h72 dX8_checks_121 ?_
    refine lv_iload_n hx hb dX8_checks_122 rfl (lv_at hl 3 rfl) ?_
    refine lv_aload_n hx hb dX8_checks_123 rfl (lv_at hl 0 rfl) ?_
    obtain ⟨n74, h73, hf⟩ := hs_bi hf
    refine x_getN hx hb hts inX8_checks_X8 hown hK hB (by decide) rfl (k := 17) (by decide) rfl h73 (hts _ lkX8_checks_5) (fun _ h9 => h9) dX8_checks_124 ?_
    refine lv_iconst (v := 4) hx hb dX8_checks_127 (by decide) ?_
    refine lv_iload_n hx hb dX8_checks_128 rfl (lv_at hl 2 rfl) ?_
    refine lv_iconst (v := 3) hx hb dX8_checks_129 (by decide) ?_
    refine lv_irem hx hb dX8_checks_130 (by decide) ?_
    refine lv_iadd hx hb dX8_checks_131 ?_
    obtain ⟨v75, h76, hf⟩ := hs_bi hf
    refine x_iald hx hb hK hB h76 dX8_checks_132 ?_
    refine lv_iadd hx hb dX8_checks_133 ?_
    refine lv_sipush (v := 10000) hx hb dX8_checks_134 (by decide) ?_
    refine lv_irem hx hb dX8_checks_137 (by decide) ?_
    refine lv_icmp_ne (tgt := 145) hx hb dX8_checks_138 (by decide) (fun h77 => ?_) (fun h77 => ?_)
    · have hf := hs_ff h77 hf
      refine lv_iconst (v := 0) hx hb dX8_checks_145 (by decide) ?_
      refine lv_goto (tgt := 229) hx hb dX8_checks_146 (by decide) ?_
      exact wX8_checks_229 fu C hem k16 hk16 σ31 x0 x1 x2 x3 x4 x5 x6 x7 x8 0 hf hB hS hl
    · have hf := hs_tt h77 hf
      refine lv_iconst (v := 1) hx hb dX8_checks_141 (by decide) ?_
      refine lv_goto (tgt := 229) hx hb dX8_checks_142 (by decide) ?_
      exact wX8_checks_229 fu C hem k16 hk16 σ31 x0 x1 x2 x3 x4 x5 x6 x7 x8 1 hf hB hS hl
set_option maxRecDepth 100000 in
set_option maxHeartbeats 4000000 in
theorem wX8_checks_16b (fu : Nat) (C : hs_Cx p s m args meth c X A yX8_checks cX8_checks 10 (some .boolean) wsX8_checks) (hem : ad hs_em = X.2.2.1.2.2.2)  (k16 : hs_T → Nat → Int32 → Int32 → Int32 → Int32 → Int32 → Int32 → Option (Int32 × hs_T)) (hk16 : ∀ (σ : hs_T) (x0 : Nat) (x1 : Int32) (x2 : Int32) (x3 : Int32) (x4 : Int32) (x5 : Int32) (x6 : Int32) (H : Heap) (locs : List Loc) (ls : Array Slot), k16 σ x0 x1 x2 x3 x4 x5 x6 = some (r, τ) → hs_H X.1 X.2.1 ad A σ H → va_S A s.heap H locs → lv_has ls 10 [(0, .ref (ad x0)), (1, .int x1), (2, .int x2), (3, .int x3), (4, .int x4), (5, .int x5), (6, .int x6)] → W p l e rmX8_checks s m args below meth c H locs 0 0 (MQ below (hs_Q0 hs_tvi X ad A r τ) args s 0 0 A) (F0 m 16 ls [])) {H : Heap} {locs : List Loc} {ls : Array Slot} (σ : hs_T) (x0 : Nat) (x1 : Int32) (x2 : Int32) (x3 : Int32) (x4 : Int32) (x5 : Int32) (x6 : Int32) (hf : fX8_checks_16b fu  k16 σ x0 x1 x2 x3 x4 x5 x6 = some (r, τ)) (hB : hs_H X.1 X.2.1 ad A σ H) (hS : va_S A s.heap H locs) (hl : lv_has ls 10 [(0, .ref (ad x0)), (1, .int x1), (2, .int x2), (3, .int x3), (4, .int x4), (5, .int x5), (6, .int x6)]) : W p l e rmX8_checks s m args below meth c H locs 0 0 (MQ below (hs_Q0 hs_tvi X ad A r τ) args s 0 0 A) (F0 m 16 ls []) := by
  obtain ⟨hx, hb, hml, hr, hts, hown, hlk, hnm, hV, hA0, hA⟩ := id C
  have hown : s.vm.findClass RX8 = some m.cls := hown
  have hK := hV.1
  have hNw := hV.2.1
  unfold fX8_checks_16b at hf
  refine lv_iload hx hb dX8_checks_16 (lv_at hl 6 rfl) ?_
  refine lv_iconst (v := 3) hx hb dX8_checks_18 (by decide) ?_
  refine lv_icmp_ge (tgt := 289) hx hb dX8_checks_19 (by decide) (fun h5 => ?_) (fun h5 => ?_)
  · have hf := hs_tt h5 hf
    refine lv_iload hx hb dX8_checks_289 (lv_at hl 4 rfl) ?_
    obtain ⟨_, h6, hf⟩ := hs_bi hf
    obtain ⟨rfl, rfl⟩ := hs_ri hf
    exact hs_zret hx hb hr hlk (hs_bz_i h6) hB hS dX8_checks_291
  · have hf := hs_ff h5 hf
    refine lv_aload_n hx hb dX8_checks_22 rfl (lv_at hl 0 rfl) ?_
    obtain ⟨n8, h7, hf⟩ := hs_bi hf
    refine x_getN hx hb hts inX8_checks_X8 hown hK hB (by decide) rfl (k := 36) (by decide) rfl h7 (hts _ lkX8_checks_0) (fun _ h9 => h9) dX8_checks_23 ?_
    refine lv_iconst (v := 3) hx hb dX8_checks_26 (by decide) ?_
    refine lv_iload_n hx hb dX8_checks_27 rfl (lv_at hl 3 rfl) ?_
    refine lv_bipush (v := 6) hx hb dX8_checks_28 (by decide) ?_
    refine lv_irem hx hb dX8_checks_30 (by decide) ?_
    refine lv_imul hx hb dX8_checks_31 ?_
    refine lv_iload hx hb dX8_checks_32 (lv_at hl 6 rfl) ?_
    refine lv_iadd hx hb dX8_checks_34 ?_
    obtain ⟨v9, h10, hf⟩ := hs_bi hf
    refine x_iald hx hb hK hB h10 dX8_checks_35 ?_
    refine lv_istore (lv' := [(7, .int v9), (0, .ref (ad x0)), (1, .int x1), (2, .int x2), (3, .int x3), (4, .int x4), (5, .int x5), (6, .int x6)]) hx hb dX8_checks_36 hl (by decide) rfl (fun ls hl => ?_)
    refine lv_iconst (v := 3) hx hb dX8_checks_38 (by decide) ?_
    refine lv_iload_n hx hb dX8_checks_39 rfl (lv_at hl 3 rfl) ?_
    refine lv_imul hx hb dX8_checks_40 ?_
    refine lv_iload hx hb dX8_checks_41 (lv_at hl 7 rfl) ?_
    refine lv_iadd hx hb dX8_checks_43 ?_
    refine lv_istore (lv' := [(8, .int ((3 * x2) + x6)), (7, .int v9), (0, .ref (ad x0)), (1, .int x1), (2, .int x2), (3, .int x3), (4, .int x4), (5, .int x5), (6, .int x6)]) hx hb dX8_checks_44 hl (by decide) rfl (fun ls hl => ?_)
    refine lv_aload_n hx hb dX8_checks_46 rfl (lv_at hl 2 rfl) ?_
    obtain ⟨n12, h11, hf⟩ := hs_bi hf
    refine x_getN hx hb hts inX8_checks_X8 hown hK hB (by decide) rfl (k := 32) (by decide) rfl h11 (hts _ lkX8_checks_1) (fun _ h9 => h9) dX8_checks_47 ?_
    refine lv_iload hx hb dX8_checks_50 (lv_at hl 0 rfl) ?_
    refine lv_iload hx hb dX8_checks_52 (lv_at hl 1 rfl) ?_
    obtain ⟨σ13, h14, hf⟩ := hs_bi hf
    refine x_iast hx hb hK hB hS h14 dX8_checks_54 (fun H locs hB hS => ?_)
    refine lv_aload_n hx hb dX8_checks_55 rfl (lv_at hl 2 rfl) ?_
    obtain ⟨n16, h15, hf⟩ := hs_bi hf
    refine x_getN hx hb hts inX8_checks_X8 hown hK hB (by decide) rfl (k := 33) (by decide) rfl h15 (hts _ lkX8_checks_2) (fun _ h9 => h9) dX8_checks_56 ?_
    refine lv_iload hx hb dX8_checks_59 (lv_at hl 0 rfl) ?_
    refine lv_iload hx hb dX8_checks_61 (lv_at hl 1 rfl) ?_
    refine lv_if_ne (tgt := 70) hx hb dX8_checks_63 (by decide) (fun h17 => ?_) (fun h17 => ?_)
    · have hf := hs_ff h17 hf
      refine lv_iload hx hb dX8_checks_70 (lv_at hl 1 rfl) ?_
      refine lv_iconst (v := 1) hx hb dX8_checks_72 (by decide) ?_
      refine lv_icmp_ne (tgt := 85) hx hb dX8_checks_73 (by decide) (fun h18 => ?_) (fun h18 => ?_)
      · have hf := hs_ff h18 hf
        refine lv_iconst (v := 0) hx hb dX8_checks_85 (by decide) ?_
        exact wX8_checks_86 fu C hem k16 hk16 σ13 x0 x1 x2 x3 x4 x5 x6 v9 ((3 * x2) + x6) 0 ((3 * x2) + x6) n16 hf hB hS (lv_sub hl [2, 3, 4, 5, 6, 7, 8, 1, 0] rfl)
      · have hf := hs_tt h18 hf
        refine lv_aload_n hx hb dX8_checks_76 rfl (lv_at hl 2 rfl) ?_
        refine lv_iload_n hx hb dX8_checks_77 rfl (lv_at hl 3 rfl) ?_
        refine lv_iload_n hx hb dX8_checks_78 rfl (lv_at hl 4 rfl) ?_
        obtain ⟨_, h80, hf⟩ := hs_bi hf
        obtain ⟨v81, σ79, h78, hf⟩ := hs_b2i hf
        refine hs_call0 (va_runV (As := [.int x1, .int x2]) (rest := [.int ((3 * x2) + x6), .ref (ad n16)]) ⟨hx, hb, hml, hown, hts⟩ (ctX8_flagOf l fu σ13 x0 x1 x2 X ad H.size _ _ h78) (cwV 2 hts gX8_checks_X8_flagOf rfl rfl rfl (by decide +kernel) ⟨Nat.le_of_ble_eq_true rfl, Nat.le_of_ble_eq_true rfl⟩) (hs_preV (hs_recv hK hB (hs_ck_i h80) (by decide) rfl) hV hB hS hA0 hA hem) rfl rfl hl.1 rfl (lv_room (Nat.le_of_ble_eq_true rfl)) dX8_checks_79 ⟨Nat.le_of_ble_eq_true rfl, Nat.le_of_ble_eq_true rfl⟩) hB hS hA rfl (fun H locs hB hS => ?_)
        refine lv_goto (tgt := 86) hx hb dX8_checks_82 (by decide) ?_
        exact wX8_checks_86 fu C hem k16 hk16 σ79 x0 x1 x2 x3 x4 x5 x6 v9 ((3 * x2) + x6) v81 ((3 * x2) + x6) n16 hf hB hS (lv_sub hl [2, 3, 4, 5, 6, 7, 8, 1, 0] rfl)
    · have hf := hs_tt h17 hf
      refine lv_iload_n hx hb dX8_checks_66 rfl (lv_at hl 5 rfl) ?_
      refine lv_goto (tgt := 86) hx hb dX8_checks_67 (by decide) ?_
      exact wX8_checks_86 fu C hem k16 hk16 σ13 x0 x1 x2 x3 x4 x5 x6 v9 ((3 * x2) + x6) x3 ((3 * x2) + x6) n16 hf hB hS (lv_sub hl [2, 3, 4, 5, 6, 7, 8, 1, 0] rfl)
set_option maxRecDepth 100000 in
set_option maxHeartbeats 4000000 in
theorem wX8_checks_16 (fu : Nat) (C : hs_Cx p s m args meth c X A yX8_checks cX8_checks 10 (some .boolean) wsX8_checks) (hem : ad hs_em = X.2.2.1.2.2.2)  {H : Heap} {locs : List Loc} {ls : Array Slot} (σ : hs_T) (x0 : Nat) (x1 : Int32) (x2 : Int32) (x3 : Int32) (x4 : Int32) (x5 : Int32) (x6 : Int32) (hf : fX8_checks_16 fu  σ x0 x1 x2 x3 x4 x5 x6 = some (r, τ)) (hB : hs_H X.1 X.2.1 ad A σ H) (hS : va_S A s.heap H locs) (hl : lv_has ls 10 [(0, .ref (ad x0)), (1, .int x1), (2, .int x2), (3, .int x3), (4, .int x4), (5, .int x5), (6, .int x6)]) : W p l e rmX8_checks s m args below meth c H locs 0 0 (MQ below (hs_Q0 hs_tvi X ad A r τ) args s 0 0 A) (F0 m 16 ls []) := by
  unfold fX8_checks_16 at hf
  exact hs_lp_i (P := fun a => ∀ (H : Heap) (locs : List Loc) (ls : Array Slot), hs_H X.1 X.2.1 ad A a.1 H → va_S A s.heap H locs → lv_has ls 10 [(0, .ref (ad a.2.1)), (1, .int a.2.2.1), (2, .int a.2.2.2.1), (3, .int a.2.2.2.2.1), (4, .int a.2.2.2.2.2.1), (5, .int a.2.2.2.2.2.2.1), (6, .int a.2.2.2.2.2.2.2)] → W p l e rmX8_checks s m args below meth c H locs 0 0 (MQ below (hs_Q0 hs_tvi X ad A r τ) args s 0 0 A) (F0 m 16 ls [])) (fun k a hk hf H locs ls hB hS hl => wX8_checks_16b fu C hem  _ (fun σ x0 x1 x2 x3 x4 x5 x6 H locs ls hf hB hS hl => hk (σ, x0, x1, x2, x3, x4, x5, x6) hf H locs ls hB hS hl) a.1 a.2.1 a.2.2.1 a.2.2.2.1 a.2.2.2.2.1 a.2.2.2.2.2.1 a.2.2.2.2.2.2.1 a.2.2.2.2.2.2.2 hf hB hS hl) fu (σ, x0, x1, x2, x3, x4, x5, x6) hf H locs ls hB hS hl
set_option maxRecDepth 100000 in
set_option maxHeartbeats 4000000 in
theorem wX8_checks_e (fu : Nat) (C : hs_Cx p s m args meth c X A yX8_checks cX8_checks 10 (some .boolean) wsX8_checks) (hem : ad hs_em = X.2.2.1.2.2.2) {H : Heap} {locs : List Loc} {ls : Array Slot} (σ : hs_T) (o : Nat) (a1 : Int32) (a2 : Int32) (hf : fX8_checks fu σ o a1 a2 = some (r, τ)) (hB : hs_H X.1 X.2.1 ad A σ H) (hS : va_S A s.heap H locs) (hl : lv_has ls 10 [(0, .ref (ad o)), (1, .int a1), (2, .int a2)]) : W p l e rmX8_checks s m args below meth c H locs 0 0 (MQ below (hs_Q0 hs_tvi X ad A r τ) args s 0 0 A) (F0 m 0 ls []) := by
  obtain ⟨hx, hb, hml, hr, hts, hown, hlk, hnm, hV, hA0, hA⟩ := id C
  have hown : s.vm.findClass RX8 = some m.cls := hown
  have hK := hV.1
  have hNw := hV.2.1
  unfold fX8_checks at hf
  refine lv_aload_n hx hb dX8_checks_0 rfl (lv_at hl 0 rfl) ?_
  refine lv_iload_n hx hb dX8_checks_1 rfl (lv_at hl 1 rfl) ?_
  refine lv_iload_n hx hb dX8_checks_2 rfl (lv_at hl 2 rfl) ?_
  obtain ⟨_, h3, hf⟩ := hs_bi hf
  obtain ⟨v4, σ2, h1, hf⟩ := hs_b2i hf
  refine hs_call0 (va_runV (As := [.int a1, .int a2]) (rest := []) ⟨hx, hb, hml, hown, hts⟩ (ctX8_mix l fu σ o a1 a2 X ad H.size _ _ h1) (cwV 2 hts gX8_checks_X8_mix rfl rfl rfl (by decide +kernel) ⟨Nat.le_of_ble_eq_true rfl, Nat.le_of_ble_eq_true rfl⟩) (hs_preV (hs_recv hK hB (hs_ck_i h3) (by decide) rfl) hV hB hS hA0 hA hem) rfl rfl hl.1 rfl (lv_room (Nat.le_of_ble_eq_true rfl)) dX8_checks_3 ⟨Nat.le_of_ble_eq_true rfl, Nat.le_of_ble_eq_true rfl⟩) hB hS hA rfl (fun H locs hB hS => ?_)
  refine lv_istore_n (lv' := [(3, .int v4), (0, .ref (ad o)), (1, .int a1), (2, .int a2)]) hx hb dX8_checks_6 rfl hl (by decide) rfl (fun ls hl => ?_)
  refine lv_iconst (v := 1) hx hb dX8_checks_7 (by decide) ?_
  refine lv_istore (lv' := [(4, .int 1), (3, .int v4), (0, .ref (ad o)), (1, .int a1), (2, .int a2)]) hx hb dX8_checks_8 hl (by decide) rfl (fun ls hl => ?_)
  refine lv_iconst (v := 0) hx hb dX8_checks_10 (by decide) ?_
  refine lv_istore (lv' := [(5, .int 0), (4, .int 1), (3, .int v4), (0, .ref (ad o)), (1, .int a1), (2, .int a2)]) hx hb dX8_checks_11 hl (by decide) rfl (fun ls hl => ?_)
  refine lv_iconst (v := 0) hx hb dX8_checks_13 (by decide) ?_
  refine lv_istore (lv' := [(6, .int 0), (5, .int 0), (4, .int 1), (3, .int v4), (0, .ref (ad o)), (1, .int a1), (2, .int a2)]) hx hb dX8_checks_14 hl (by decide) rfl (fun ls hl => ?_)
  exact wX8_checks_16 fu C hem σ2 o a1 a2 v4 1 0 0 hf hB hS (lv_sub hl [4, 5, 6, 3, 2, 1, 0] rfl)
end SX8_checks
set_option maxRecDepth 100000 in
theorem ctX8_checks (l : Launch) (fu : Nat) (σ : hs_T) (o : Nat) (a1 : Int32) (a2 : Int32) : hs_C0 hs_tvi l yX8_checks wsX8_checks rmX8_checks (fun ad => [.ref (ad o), .int a1, .int a2]) σ (fX8_checks fu σ o a1 a2) := by
  intro X ad sz r τ hf
  refine hs_enter (cc := cX8_checks) (maxL := 10) (ret := (some .boolean)) (by decide) rfl (Nat.le_of_ble_eq_true rfl) ?_
  intro p e s m below meth c ls C hl hem hB hS hsz
  exact wX8_checks_e fu C hem σ o a1 a2 hf hB hS hl
/-! ServiceGameModel.round()I -/
abbrev rmX8_round : Room := { frames := 4, cells := 0, slots := 0, locals := 102 }
theorem inX8_round_X8 : ∀ w ∈ wsX80, w ∈ wsX8_round := fun _ h => List.mem_cons_of_mem _ (List.mem_append_right _ h)
theorem lkX8_round_0 : Cond.fieldLink RX8 104 "ServiceGameModel" "teams" "I" ∈ wsX8_round := by decide +kernel
theorem lkX8_round_1 : Cond.fieldLink RX8 118 "ServiceGameModel" "rounds" "I" ∈ wsX8_round := by decide +kernel
theorem lkX8_round_2 : Cond.fieldLink RX8 203 "ServiceGameModel" "letters" "I" ∈ wsX8_round := by decide +kernel
theorem lkX8_round_3 : Cond.fieldLink RX8 219 "ServiceGameModel" "ahead" "I" ∈ wsX8_round := by decide +kernel
theorem lkX8_round_4 : Cond.fieldLink RX8 71 "ServiceGameModel" "isUp" "[Z" ∈ wsX8_round := by decide +kernel
theorem lkX8_round_5 : Cond.fieldLink RX8 44 "ServiceGameModel" "upMany" "[I" ∈ wsX8_round := by decide +kernel
theorem lkX8_round_6 : Cond.fieldLink RX8 22 "ServiceGameModel" "waits" "[Z" ∈ wsX8_round := by decide +kernel
theorem lkX8_round_7 : Cond.fieldLink RX8 19 "ServiceGameModel" "size" "[I" ∈ wsX8_round := by decide +kernel
theorem lkX8_round_8 : Cond.fieldLink RX8 13 "ServiceGameModel" "step" "[I" ∈ wsX8_round := by decide +kernel
theorem lkX8_round_9 : Cond.fieldLink RX8 16 "ServiceGameModel" "number" "[I" ∈ wsX8_round := by decide +kernel
theorem lkX8_round_10 : Cond.fieldLink RX8 62 "ServiceGameModel" "aheadTo" "[I" ∈ wsX8_round := by decide +kernel
theorem lkX8_round_11 : Cond.fieldLink RX8 53 "ServiceGameModel" "letterTo" "[I" ∈ wsX8_round := by decide +kernel
theorem lkX8_round_12 : Cond.fieldLink RX8 65 "ServiceGameModel" "aheadA" "[I" ∈ wsX8_round := by decide +kernel
theorem lkX8_round_13 : Cond.fieldLink RX8 56 "ServiceGameModel" "letterA" "[I" ∈ wsX8_round := by decide +kernel
theorem lkX8_round_14 : Cond.fieldLink RX8 68 "ServiceGameModel" "aheadB" "[I" ∈ wsX8_round := by decide +kernel
theorem lkX8_round_15 : Cond.fieldLink RX8 59 "ServiceGameModel" "letterB" "[I" ∈ wsX8_round := by decide +kernel
def fX8_round_258 (fu : Nat) (k207 : hs_T → Nat → Int32 → Int32 → Option (Int32 × hs_T)) (σ : hs_T) (x0 : Nat) (x1 : Int32) (x2 : Int32) (x3 : Int32) (y0 : Int32) (y1 : Int32) (y2 : Int32) (y3 : Nat) : Option (Int32 × hs_T) :=
 (hs_st σ 11 y3 y2 (y1 + y0)).bind fun σ43 =>
 if x3 = 0 then
 (k207 σ43 x0 (x1 + 0) (x2 + 1))
 else
 (k207 σ43 x0 (x1 + 1) (x2 + 1))
def fX8_round_207b (fu : Nat)  (k207 : hs_T → Nat → Int32 → Int32 → Option (Int32 × hs_T)) (σ : hs_T) (x0 : Nat) (x1 : Int32) (x2 : Int32) : Option (Int32 × hs_T) :=
 (hs_gI σ 10 x0 0).bind fun v20 =>
 if (3 * v20) ≤ x2 then
 ((hs_gI σ 10 x0 1).bind fun v23 =>
 (hs_pI σ 10 x0 1 (v23 + 1)).bind fun σ25 =>
 some (x1, σ25))
 else
 ((hs_gI σ 10 x0 1).bind fun v27 =>
 (hs_ck σ 10 x0).bind fun _ =>
 hs_b2 (fX8_checks fu σ x0 v27 x2) fun v31 σ29 =>
 (hs_gN σ29 10 x0 31).bind fun n33 =>
 (hs_gI σ29 10 x0 1).bind fun v35 =>
 (hs_st σ29 12 n33 ((15 * v35) + x2) (v31 &&& 1)).bind fun σ36 =>
 (hs_gN σ36 10 x0 16).bind fun n39 =>
 (hs_ld σ36 11 n39 x2).bind fun v40 =>
 if v31 = 0 then
 (fX8_round_258 fu k207 σ36 x0 x1 x2 v31 0 v40 x2 n39)
 else
 (fX8_round_258 fu k207 σ36 x0 x1 x2 v31 1 v40 x2 n39))
def fX8_round_207 (fu : Nat)  (σ : hs_T) (x0 : Nat) (x1 : Int32) (x2 : Int32) : Option (Int32 × hs_T) :=
   hs_lp (fun (k : hs_T × Nat × Int32 × Int32 → Option (Int32 × hs_T)) (a : hs_T × Nat × Int32 × Int32) => fX8_round_207b fu  (fun σ x0 x1 x2 => k (σ, x0, x1, x2)) a.1 a.2.1 a.2.2.1 a.2.2.2) fu (σ, x0, x1, x2)
def fX8_round_115b (fu : Nat) (k91 : hs_T → Nat → Int32 → Int32 → Option (Int32 × hs_T)) (k115 : hs_T → Nat → Int32 → Int32 → Int32 → Option (Int32 × hs_T)) (σ : hs_T) (x0 : Nat) (x1 : Int32) (x2 : Int32) (x3 : Int32) : Option (Int32 × hs_T) :=
 if 24 ≤ x3 then
 ((hs_gN σ 10 x0 5).bind fun n53 =>
 (hs_gN σ 10 x0 5).bind fun n55 =>
 (hs_ld σ 11 n55 (x2 + 15)).bind fun v56 =>
 (hs_st σ 11 n53 x2 v56).bind fun σ58 =>
 (hs_gN σ58 10 x0 6).bind fun n61 =>
 (hs_st σ58 12 n61 x2 (0 &&& 1)).bind fun σ62 =>
 k91 σ62 x0 x1 (x2 + 1))
 else
 ((hs_gN σ 10 x0 3).bind fun n65 =>
 (hs_gN σ 10 x0 3).bind fun n67 =>
 (hs_ld σ 11 n67 ((24 * (x2 + 15)) + x3)).bind fun v68 =>
 (hs_st σ 11 n65 ((24 * x2) + x3) v68).bind fun σ70 =>
 (hs_gN σ70 10 x0 4).bind fun n73 =>
 (hs_gN σ70 10 x0 4).bind fun n75 =>
 (hs_ld σ70 11 n75 ((24 * (x2 + 15)) + x3)).bind fun v76 =>
 (hs_st σ70 11 n73 ((24 * x2) + x3) v76).bind fun σ78 =>
 k115 σ78 x0 x1 x2 (x3 + 1))
def fX8_round_115 (fu : Nat) (k91 : hs_T → Nat → Int32 → Int32 → Option (Int32 × hs_T)) (σ : hs_T) (x0 : Nat) (x1 : Int32) (x2 : Int32) (x3 : Int32) : Option (Int32 × hs_T) :=
   hs_lp (fun (k : hs_T × Nat × Int32 × Int32 × Int32 → Option (Int32 × hs_T)) (a : hs_T × Nat × Int32 × Int32 × Int32) => fX8_round_115b fu k91 (fun σ x0 x1 x2 x3 => k (σ, x0, x1, x2, x3)) a.1 a.2.1 a.2.2.1 a.2.2.2.1 a.2.2.2.2) fu (σ, x0, x1, x2, x3)
def fX8_round_91b (fu : Nat)  (k91 : hs_T → Nat → Int32 → Int32 → Option (Int32 × hs_T)) (σ : hs_T) (x0 : Nat) (x1 : Int32) (x2 : Int32) : Option (Int32 × hs_T) :=
 (hs_gI σ 10 x0 0).bind fun v17 =>
 if (3 * v17) ≤ x2 then
 (fX8_round_207 fu σ x0 x1 0)
 else
 ((hs_gN σ 10 x0 6).bind fun n47 =>
 (hs_ld σ 12 n47 x2).bind fun v48 =>
 if v48 = 0 then
 (k91 σ x0 x1 (x2 + 1))
 else
 (fX8_round_115 fu k91 σ x0 x1 x2 0))
def fX8_round_91 (fu : Nat)  (σ : hs_T) (x0 : Nat) (x1 : Int32) (x2 : Int32) : Option (Int32 × hs_T) :=
   hs_lp (fun (k : hs_T × Nat × Int32 × Int32 → Option (Int32 × hs_T)) (a : hs_T × Nat × Int32 × Int32) => fX8_round_91b fu  (fun σ x0 x1 x2 => k (σ, x0, x1, x2)) a.1 a.2.1 a.2.2.1 a.2.2.2) fu (σ, x0, x1, x2)
def fX8_round_24b (fu : Nat)  (k24 : hs_T → Nat → Int32 → Option (Int32 × hs_T)) (σ : hs_T) (x0 : Nat) (x1 : Int32) : Option (Int32 × hs_T) :=
 (hs_gI σ 10 x0 28).bind fun v8 =>
 if v8 ≤ x1 then
 ((hs_gI σ 10 x0 28).bind fun v11 =>
 (hs_pI σ 10 x0 29 v11).bind fun σ13 =>
 (hs_pI σ13 10 x0 28 0).bind fun σ15 =>
 fX8_round_91 fu σ15 x0 0 0)
 else
 ((hs_gN σ 10 x0 25).bind fun n81 =>
 (hs_gN σ 10 x0 22).bind fun n83 =>
 (hs_ld σ 11 n83 x1).bind fun v84 =>
 (hs_st σ 11 n81 x1 v84).bind fun σ86 =>
 (hs_gN σ86 10 x0 26).bind fun n89 =>
 (hs_gN σ86 10 x0 23).bind fun n91 =>
 (hs_ld σ86 11 n91 x1).bind fun v92 =>
 (hs_st σ86 11 n89 x1 v92).bind fun σ94 =>
 (hs_gN σ94 10 x0 27).bind fun n97 =>
 (hs_gN σ94 10 x0 24).bind fun n99 =>
 (hs_ld σ94 11 n99 x1).bind fun v100 =>
 (hs_st σ94 11 n97 x1 v100).bind fun σ102 =>
 k24 σ102 x0 (x1 + 1))
def fX8_round_24 (fu : Nat)  (σ : hs_T) (x0 : Nat) (x1 : Int32) : Option (Int32 × hs_T) :=
   hs_lp (fun (k : hs_T × Nat × Int32 → Option (Int32 × hs_T)) (a : hs_T × Nat × Int32) => fX8_round_24b fu  (fun σ x0 x1 => k (σ, x0, x1)) a.1 a.2.1 a.2.2) fu (σ, x0, x1)
def fX8_round (fu : Nat) (σ : hs_T) (o : Nat) : Option (Int32 × hs_T) :=
 (hs_gI σ 10 o 0).bind fun v2 =>
 if v2 = 0 then
 (some ((-3), σ))
 else
 ((hs_gI σ 10 o 1).bind fun v5 =>
 if v5 = 100 then
 (some ((-4), σ))
 else
 (fX8_round_24 fu σ o 0))
section SX8_round
variable {p : Program} {l : Launch} {e : Env} {s : State} {m : MethodId} {args : Array Value} {below : List Frame} {meth : Method} {c : Code} {X : hs_X} {ad : Nat → Nat} {A : Nat → Prop} {r : Int32} {τ : hs_T}
set_option maxRecDepth 100000 in
set_option maxHeartbeats 4000000 in
theorem wX8_round_258 (fu : Nat) (C : hs_Cx p s m args meth c X A yX8_round cX8_round 4 (some .int) wsX8_round) (hem : ad hs_em = X.2.2.1.2.2.2) (k207 : hs_T → Nat → Int32 → Int32 → Option (Int32 × hs_T)) (hk207 : ∀ (σ : hs_T) (x0 : Nat) (x1 : Int32) (x2 : Int32) (H : Heap) (locs : List Loc) (ls : Array Slot), k207 σ x0 x1 x2 = some (r, τ) → hs_H X.1 X.2.1 ad A σ H → va_S A s.heap H locs → lv_has ls 4 [(0, .ref (ad x0)), (1, .int x1), (2, .int x2)] → W p l e rmX8_round s m args below meth c H locs 0 0 (MQ below (hs_Q0 hs_tvi X ad A r τ) args s 0 0 A) (F0 m 207 ls [])) {H : Heap} {locs : List Loc} {ls : Array Slot} (σ : hs_T) (x0 : Nat) (x1 : Int32) (x2 : Int32) (x3 : Int32) (y0 : Int32) (y1 : Int32) (y2 : Int32) (y3 : Nat) (hf : fX8_round_258 fu k207 σ x0 x1 x2 x3 y0 y1 y2 y3 = some (r, τ)) (hB : hs_H X.1 X.2.1 ad A σ H) (hS : va_S A s.heap H locs) (hl : lv_has ls 4 [(0, .ref (ad x0)), (1, .int x1), (2, .int x2), (3, .int x3)]) : W p l e rmX8_round s m args below meth c H locs 0 0 (MQ below (hs_Q0 hs_tvi X ad A r τ) args s 0 0 A) (F0 m 258 ls [.int y0, .int y1, .int y2, .ref (ad y3)]) := by
  obtain ⟨hx, hb, hml, hr, hts, hown, hlk, hnm, hV, hA0, hA⟩ := id C
  have hown : s.vm.findClass RX8 = some m.cls := hown
  have hK := hV.1
  have hNw := hV.2.1
  unfold fX8_round_258 at hf
  refine lv_iadd hx hb dX8_round_258 ?_
  obtain ⟨σ43, h44, hf⟩ := hs_bi hf
  refine x_iast hx hb hK hB hS h44 dX8_round_259 (fun H locs hB hS => ?_)
  refine lv_iload_n hx hb dX8_round_260 rfl (lv_at hl 1 rfl) ?_
  refine lv_iload_n hx hb dX8_round_261 rfl (lv_at hl 3 rfl) ?_
  refine lv_if_eq (tgt := 269) hx hb dX8_round_262 (by decide) (fun h45 => ?_) (fun h45 => ?_)
  · have hf := hs_tt h45 hf
    refine lv_iconst (v := 0) hx hb dX8_round_269 (by decide) ?_
    refine lv_iadd hx hb dX8_round_270 ?_
    refine lv_istore_n (lv' := [(1, .int (x1 + 0)), (0, .ref (ad x0)), (2, .int x2), (3, .int x3)]) hx hb dX8_round_271 rfl hl (by decide) rfl (fun ls hl => ?_)
    refine lv_iinc (v := (x2 + 1)) (lv' := [(2, .int (x2 + 1)), (1, .int (x1 + 0)), (0, .ref (ad x0)), (3, .int x3)]) hx hb dX8_round_272 hl (k := 2) rfl rfl (by decide) rfl (fun ls hl => ?_)
    refine lv_goto (tgt := 207) hx hb dX8_round_275 (by decide) ?_
    exact hk207 σ43 x0 (x1 + 0) (x2 + 1) _ _ _ hf hB hS (lv_sub hl [2, 1, 0] rfl)
  · have hf := hs_ff h45 hf
    refine lv_iconst (v := 1) hx hb dX8_round_265 (by decide) ?_
    refine lv_goto (tgt := 270) hx hb dX8_round_266 (by decide) ?_
    refine lv_iadd hx hb dX8_round_270 ?_
    refine lv_istore_n (lv' := [(1, .int (x1 + 1)), (0, .ref (ad x0)), (2, .int x2), (3, .int x3)]) hx hb dX8_round_271 rfl hl (by decide) rfl (fun ls hl => ?_)
    refine lv_iinc (v := (x2 + 1)) (lv' := [(2, .int (x2 + 1)), (1, .int (x1 + 1)), (0, .ref (ad x0)), (3, .int x3)]) hx hb dX8_round_272 hl (k := 2) rfl rfl (by decide) rfl (fun ls hl => ?_)
    refine lv_goto (tgt := 207) hx hb dX8_round_275 (by decide) ?_
    exact hk207 σ43 x0 (x1 + 1) (x2 + 1) _ _ _ hf hB hS (lv_sub hl [2, 1, 0] rfl)
set_option maxRecDepth 100000 in
set_option maxHeartbeats 4000000 in
theorem wX8_round_207b (fu : Nat) (C : hs_Cx p s m args meth c X A yX8_round cX8_round 4 (some .int) wsX8_round) (hem : ad hs_em = X.2.2.1.2.2.2)  (k207 : hs_T → Nat → Int32 → Int32 → Option (Int32 × hs_T)) (hk207 : ∀ (σ : hs_T) (x0 : Nat) (x1 : Int32) (x2 : Int32) (H : Heap) (locs : List Loc) (ls : Array Slot), k207 σ x0 x1 x2 = some (r, τ) → hs_H X.1 X.2.1 ad A σ H → va_S A s.heap H locs → lv_has ls 4 [(0, .ref (ad x0)), (1, .int x1), (2, .int x2)] → W p l e rmX8_round s m args below meth c H locs 0 0 (MQ below (hs_Q0 hs_tvi X ad A r τ) args s 0 0 A) (F0 m 207 ls [])) {H : Heap} {locs : List Loc} {ls : Array Slot} (σ : hs_T) (x0 : Nat) (x1 : Int32) (x2 : Int32) (hf : fX8_round_207b fu  k207 σ x0 x1 x2 = some (r, τ)) (hB : hs_H X.1 X.2.1 ad A σ H) (hS : va_S A s.heap H locs) (hl : lv_has ls 4 [(0, .ref (ad x0)), (1, .int x1), (2, .int x2)]) : W p l e rmX8_round s m args below meth c H locs 0 0 (MQ below (hs_Q0 hs_tvi X ad A r τ) args s 0 0 A) (F0 m 207 ls []) := by
  obtain ⟨hx, hb, hml, hr, hts, hown, hlk, hnm, hV, hA0, hA⟩ := id C
  have hown : s.vm.findClass RX8 = some m.cls := hown
  have hK := hV.1
  have hNw := hV.2.1
  unfold fX8_round_207b at hf
  refine lv_iload_n hx hb dX8_round_207 rfl (lv_at hl 2 rfl) ?_
  refine lv_iconst (v := 3) hx hb dX8_round_208 (by decide) ?_
  refine lv_aload_n hx hb dX8_round_209 rfl (lv_at hl 0 rfl) ?_
  obtain ⟨v20, h19, hf⟩ := hs_bi hf
  refine x_getI hx hb hts inX8_round_X8 hown hK hB (by decide) rfl (k := 0) (by decide) rfl h19 (hts _ lkX8_round_0) (fun _ h9 => h9) dX8_round_210 ?_
  refine lv_imul hx hb dX8_round_213 ?_
  refine lv_icmp_ge (tgt := 278) hx hb dX8_round_214 (by decide) (fun h21 => ?_) (fun h21 => ?_)
  · have hf := hs_tt h21 hf
    refine lv_aload_n hx hb dX8_round_278 rfl (lv_at hl 0 rfl) ?_
    refine lv_dup hx hb dX8_round_279 rfl ?_
    obtain ⟨v23, h22, hf⟩ := hs_bi hf
    refine x_getI hx hb hts inX8_round_X8 hown hK hB (by decide) rfl (k := 1) (by decide) rfl h22 (hts _ lkX8_round_1) (fun _ h9 => h9) dX8_round_280 ?_
    refine lv_iconst (v := 1) hx hb dX8_round_283 (by decide) ?_
    refine lv_iadd hx hb dX8_round_284 ?_
    obtain ⟨σ25, h24, hf⟩ := hs_bi hf
    refine x_putI hx hb hts inX8_round_X8 tyX8_ok nmX8 hown hK hB hS (by decide) rfl (k := 1) (by decide) rfl h24 (hts _ lkX8_round_1) (fun _ h9 => h9) rfl (by decide +kernel) dX8_round_285 (fun H locs hB hS => ?_)
    refine lv_iload_n hx hb dX8_round_288 rfl (lv_at hl 1 rfl) ?_
    obtain ⟨rfl, rfl⟩ := hs_ri hf
    exact hs_iret hx hb hr hlk hB hS dX8_round_289
  · have hf := hs_ff h21 hf
    refine lv_aload_n hx hb dX8_round_217 rfl (lv_at hl 0 rfl) ?_
    refine lv_aload_n hx hb dX8_round_218 rfl (lv_at hl 0 rfl) ?_
    obtain ⟨v27, h26, hf⟩ := hs_bi hf
    refine x_getI hx hb hts inX8_round_X8 hown hK hB (by decide) rfl (k := 1) (by decide) rfl h26 (hts _ lkX8_round_1) (fun _ h9 => h9) dX8_round_219 ?_
    refine lv_iload_n hx hb dX8_round_222 rfl (lv_at hl 2 rfl) ?_
    obtain ⟨_, h30, hf⟩ := hs_bi hf
    obtain ⟨v31, σ29, h28, hf⟩ := hs_b2i hf
    refine hs_call0 (va_runV (As := [.int v27, .int x2]) (rest := []) ⟨hx, hb, hml, hown, hts⟩ (ctX8_checks l fu σ x0 v27 x2 X ad H.size _ _ h28) (cwV 2 hts gX8_round_X8_checks rfl rfl rfl (by decide +kernel) ⟨Nat.le_of_ble_eq_true rfl, Nat.le_of_ble_eq_true rfl⟩) (hs_preV (hs_recv hK hB (hs_ck_i h30) (by decide) rfl) hV hB hS hA0 hA hem) rfl rfl hl.1 rfl (lv_room (Nat.le_of_ble_eq_true rfl)) dX8_round_223 ⟨Nat.le_of_ble_eq_true rfl, Nat.le_of_ble_eq_true rfl⟩) hB hS hA rfl (fun H locs hB hS => ?_)
    refine lv_istore_n (lv' := [(3, .int v31), (0, .ref (ad x0)), (1, .int x1), (2, .int x2)]) hx hb dX8_round_226 rfl hl (by decide) rfl (fun ls hl => ?_)
    refine lv_aload_n hx hb dX8_round_227 rfl (lv_at hl 1 rfl) ?_
    obtain ⟨n33, h32, hf⟩ := hs_bi hf
    refine x_getN hx hb hts inX8_round_X8 hown hK hB (by decide) rfl (k := 31) (by decide) rfl h32 (hts _ lkX8_round_4) (fun _ h9 => h9) dX8_round_228 ?_
    refine lv_bipush (v := 15) hx hb dX8_round_231 (by decide) ?_
    refine lv_aload_n hx hb dX8_round_233 rfl (lv_at hl 1 rfl) ?_
    obtain ⟨v35, h34, hf⟩ := hs_bi hf
    refine x_getI hx hb hts inX8_round_X8 hown hK hB (by decide) rfl (k := 1) (by decide) rfl h34 (hts _ lkX8_round_1) (fun _ h9 => h9) dX8_round_234 ?_
    refine lv_imul hx hb dX8_round_237 ?_
    refine lv_iload_n hx hb dX8_round_238 rfl (lv_at hl 3 rfl) ?_
    refine lv_iadd hx hb dX8_round_239 ?_
    refine lv_iload_n hx hb dX8_round_240 rfl (lv_at hl 0 rfl) ?_
    obtain ⟨σ36, h37, hf⟩ := hs_bi hf
    refine x_zast hx hb hK hB hS h37 dX8_round_241 (fun H locs hB hS => ?_)
    refine lv_aload_n hx hb dX8_round_242 rfl (lv_at hl 1 rfl) ?_
    obtain ⟨n39, h38, hf⟩ := hs_bi hf
    refine x_getN hx hb hts inX8_round_X8 hown hK hB (by decide) rfl (k := 16) (by decide) rfl h38 (hts _ lkX8_round_5) (fun _ h9 => h9) dX8_round_243 ?_
    refine lv_iload_n hx hb dX8_round_246 rfl (lv_at hl 3 rfl) ?_
    refine lv_dup2_11 hx hb dX8_round_247 rfl rfl ?_
    obtain ⟨v40, h41, hf⟩ := hs_bi hf
    refine x_iald hx hb hK hB h41 dX8_round_248 ?_
    refine lv_iload_n hx hb dX8_round_249 rfl (lv_at hl 0 rfl) ?_
    refine lv_if_eq (tgt := 257) hx hb dX8_round_250 (by decide) (fun h42 => ?_) (fun h42 => ?_)
    · have hf := hs_tt h42 hf
      refine lv_iconst (v := 0) hx hb dX8_round_257 (by decide) ?_
      exact wX8_round_258 fu C hem k207 hk207 σ36 x0 x1 x2 v31 0 v40 x2 n39 hf hB hS (lv_sub hl [1, 2, 3, 0] rfl)
    · have hf := hs_ff h42 hf
      refine lv_iconst (v := 1) hx hb dX8_round_253 (by decide) ?_
      refine lv_goto (tgt := 258) hx hb dX8_round_254 (by decide) ?_
      exact wX8_round_258 fu C hem k207 hk207 σ36 x0 x1 x2 v31 1 v40 x2 n39 hf hB hS (lv_sub hl [1, 2, 3, 0] rfl)
set_option maxRecDepth 100000 in
set_option maxHeartbeats 4000000 in
theorem wX8_round_207 (fu : Nat) (C : hs_Cx p s m args meth c X A yX8_round cX8_round 4 (some .int) wsX8_round) (hem : ad hs_em = X.2.2.1.2.2.2)  {H : Heap} {locs : List Loc} {ls : Array Slot} (σ : hs_T) (x0 : Nat) (x1 : Int32) (x2 : Int32) (hf : fX8_round_207 fu  σ x0 x1 x2 = some (r, τ)) (hB : hs_H X.1 X.2.1 ad A σ H) (hS : va_S A s.heap H locs) (hl : lv_has ls 4 [(0, .ref (ad x0)), (1, .int x1), (2, .int x2)]) : W p l e rmX8_round s m args below meth c H locs 0 0 (MQ below (hs_Q0 hs_tvi X ad A r τ) args s 0 0 A) (F0 m 207 ls []) := by
  unfold fX8_round_207 at hf
  exact hs_lp_i (P := fun a => ∀ (H : Heap) (locs : List Loc) (ls : Array Slot), hs_H X.1 X.2.1 ad A a.1 H → va_S A s.heap H locs → lv_has ls 4 [(0, .ref (ad a.2.1)), (1, .int a.2.2.1), (2, .int a.2.2.2)] → W p l e rmX8_round s m args below meth c H locs 0 0 (MQ below (hs_Q0 hs_tvi X ad A r τ) args s 0 0 A) (F0 m 207 ls [])) (fun k a hk hf H locs ls hB hS hl => wX8_round_207b fu C hem  _ (fun σ x0 x1 x2 H locs ls hf hB hS hl => hk (σ, x0, x1, x2) hf H locs ls hB hS hl) a.1 a.2.1 a.2.2.1 a.2.2.2 hf hB hS hl) fu (σ, x0, x1, x2) hf H locs ls hB hS hl
set_option maxRecDepth 100000 in
set_option maxHeartbeats 4000000 in
theorem wX8_round_115b (fu : Nat) (C : hs_Cx p s m args meth c X A yX8_round cX8_round 4 (some .int) wsX8_round) (hem : ad hs_em = X.2.2.1.2.2.2) (k91 : hs_T → Nat → Int32 → Int32 → Option (Int32 × hs_T)) (hk91 : ∀ (σ : hs_T) (x0 : Nat) (x1 : Int32) (x2 : Int32) (H : Heap) (locs : List Loc) (ls : Array Slot), k91 σ x0 x1 x2 = some (r, τ) → hs_H X.1 X.2.1 ad A σ H → va_S A s.heap H locs → lv_has ls 4 [(0, .ref (ad x0)), (1, .int x1), (2, .int x2)] → W p l e rmX8_round s m args below meth c H locs 0 0 (MQ below (hs_Q0 hs_tvi X ad A r τ) args s 0 0 A) (F0 m 91 ls [])) (k115 : hs_T → Nat → Int32 → Int32 → Int32 → Option (Int32 × hs_T)) (hk115 : ∀ (σ : hs_T) (x0 : Nat) (x1 : Int32) (x2 : Int32) (x3 : Int32) (H : Heap) (locs : List Loc) (ls : Array Slot), k115 σ x0 x1 x2 x3 = some (r, τ) → hs_H X.1 X.2.1 ad A σ H → va_S A s.heap H locs → lv_has ls 4 [(0, .ref (ad x0)), (1, .int x1), (2, .int x2), (3, .int x3)] → W p l e rmX8_round s m args below meth c H locs 0 0 (MQ below (hs_Q0 hs_tvi X ad A r τ) args s 0 0 A) (F0 m 115 ls [])) {H : Heap} {locs : List Loc} {ls : Array Slot} (σ : hs_T) (x0 : Nat) (x1 : Int32) (x2 : Int32) (x3 : Int32) (hf : fX8_round_115b fu k91 k115 σ x0 x1 x2 x3 = some (r, τ)) (hB : hs_H X.1 X.2.1 ad A σ H) (hS : va_S A s.heap H locs) (hl : lv_has ls 4 [(0, .ref (ad x0)), (1, .int x1), (2, .int x2), (3, .int x3)]) : W p l e rmX8_round s m args below meth c H locs 0 0 (MQ below (hs_Q0 hs_tvi X ad A r τ) args s 0 0 A) (F0 m 115 ls []) := by
  obtain ⟨hx, hb, hml, hr, hts, hown, hlk, hnm, hV, hA0, hA⟩ := id C
  have hown : s.vm.findClass RX8 = some m.cls := hown
  have hK := hV.1
  have hNw := hV.2.1
  unfold fX8_round_115b at hf
  refine lv_iload_n hx hb dX8_round_115 rfl (lv_at hl 3 rfl) ?_
  refine lv_bipush (v := 24) hx hb dX8_round_116 (by decide) ?_
  refine lv_icmp_ge (tgt := 177) hx hb dX8_round_118 (by decide) (fun h51 => ?_) (fun h51 => ?_)
  · have hf := hs_tt h51 hf
    refine lv_aload_n hx hb dX8_round_177 rfl (lv_at hl 0 rfl) ?_
    obtain ⟨n53, h52, hf⟩ := hs_bi hf
    refine x_getN hx hb hts inX8_round_X8 hown hK hB (by decide) rfl (k := 5) (by decide) rfl h52 (hts _ lkX8_round_7) (fun _ h9 => h9) dX8_round_178 ?_
    refine lv_iload_n hx hb dX8_round_181 rfl (lv_at hl 2 rfl) ?_
    refine lv_aload_n hx hb dX8_round_182 rfl (lv_at hl 0 rfl) ?_
    obtain ⟨n55, h54, hf⟩ := hs_bi hf
    refine x_getN hx hb hts inX8_round_X8 hown hK hB (by decide) rfl (k := 5) (by decide) rfl h54 (hts _ lkX8_round_7) (fun _ h9 => h9) dX8_round_183 ?_
    refine lv_iload_n hx hb dX8_round_186 rfl (lv_at hl 2 rfl) ?_
    refine lv_bipush (v := 15) hx hb dX8_round_187 (by decide) ?_
    refine lv_iadd hx hb dX8_round_189 ?_
    obtain ⟨v56, h57, hf⟩ := hs_bi hf
    refine x_iald hx hb hK hB h57 dX8_round_190 ?_
    obtain ⟨σ58, h59, hf⟩ := hs_bi hf
    refine x_iast hx hb hK hB hS h59 dX8_round_191 (fun H locs hB hS => ?_)
    refine lv_aload_n hx hb dX8_round_192 rfl (lv_at hl 0 rfl) ?_
    obtain ⟨n61, h60, hf⟩ := hs_bi hf
    refine x_getN hx hb hts inX8_round_X8 hown hK hB (by decide) rfl (k := 6) (by decide) rfl h60 (hts _ lkX8_round_6) (fun _ h9 => h9) dX8_round_193 ?_
    refine lv_iload_n hx hb dX8_round_196 rfl (lv_at hl 2 rfl) ?_
    refine lv_iconst (v := 0) hx hb dX8_round_197 (by decide) ?_
    obtain ⟨σ62, h63, hf⟩ := hs_bi hf
    refine x_zast hx hb hK hB hS h63 dX8_round_198 (fun H locs hB hS => ?_)
    refine lv_iinc (v := (x2 + 1)) (lv' := [(2, .int (x2 + 1)), (0, .ref (ad x0)), (1, .int x1), (3, .int x3)]) hx hb dX8_round_199 hl (k := 2) rfl rfl (by decide) rfl (fun ls hl => ?_)
    refine lv_goto (tgt := 91) hx hb dX8_round_202 (by decide) ?_
    exact hk91 σ62 x0 x1 (x2 + 1) _ _ _ hf hB hS (lv_sub hl [1, 2, 0] rfl)
  · have hf := hs_ff h51 hf
    refine lv_aload_n hx hb dX8_round_121 rfl (lv_at hl 0 rfl) ?_
    obtain ⟨n65, h64, hf⟩ := hs_bi hf
    refine x_getN hx hb hts inX8_round_X8 hown hK hB (by decide) rfl (k := 3) (by decide) rfl h64 (hts _ lkX8_round_8) (fun _ h9 => h9) dX8_round_122 ?_
    refine lv_bipush (v := 24) hx hb dX8_round_125 (by decide) ?_
    refine lv_iload_n hx hb dX8_round_127 rfl (lv_at hl 2 rfl) ?_
    refine lv_imul hx hb dX8_round_128 ?_
    refine lv_iload_n hx hb dX8_round_129 rfl (lv_at hl 3 rfl) ?_
    refine lv_iadd hx hb dX8_round_130 ?_
    refine lv_aload_n hx hb dX8_round_131 rfl (lv_at hl 0 rfl) ?_
    obtain ⟨n67, h66, hf⟩ := hs_bi hf
    refine x_getN hx hb hts inX8_round_X8 hown hK hB (by decide) rfl (k := 3) (by decide) rfl h66 (hts _ lkX8_round_8) (fun _ h9 => h9) dX8_round_132 ?_
    refine lv_bipush (v := 24) hx hb dX8_round_135 (by decide) ?_
    refine lv_iload_n hx hb dX8_round_137 rfl (lv_at hl 2 rfl) ?_
    refine lv_bipush (v := 15) hx hb dX8_round_138 (by decide) ?_
    refine lv_iadd hx hb dX8_round_140 ?_
    refine lv_imul hx hb dX8_round_141 ?_
    refine lv_iload_n hx hb dX8_round_142 rfl (lv_at hl 3 rfl) ?_
    refine lv_iadd hx hb dX8_round_143 ?_
    obtain ⟨v68, h69, hf⟩ := hs_bi hf
    refine x_iald hx hb hK hB h69 dX8_round_144 ?_
    obtain ⟨σ70, h71, hf⟩ := hs_bi hf
    refine x_iast hx hb hK hB hS h71 dX8_round_145 (fun H locs hB hS => ?_)
    refine lv_aload_n hx hb dX8_round_146 rfl (lv_at hl 0 rfl) ?_
    obtain ⟨n73, h72, hf⟩ := hs_bi hf
    refine x_getN hx hb hts inX8_round_X8 hown hK hB (by decide) rfl (k := 4) (by decide) rfl h72 (hts _ lkX8_round_9) (fun _ h9 => h9) dX8_round_147 ?_
    refine lv_bipush (v := 24) hx hb dX8_round_150 (by decide) ?_
    refine lv_iload_n hx hb dX8_round_152 rfl (lv_at hl 2 rfl) ?_
    refine lv_imul hx hb dX8_round_153 ?_
    refine lv_iload_n hx hb dX8_round_154 rfl (lv_at hl 3 rfl) ?_
    refine lv_iadd hx hb dX8_round_155 ?_
    refine lv_aload_n hx hb dX8_round_156 rfl (lv_at hl 0 rfl) ?_
    obtain ⟨n75, h74, hf⟩ := hs_bi hf
    refine x_getN hx hb hts inX8_round_X8 hown hK hB (by decide) rfl (k := 4) (by decide) rfl h74 (hts _ lkX8_round_9) (fun _ h9 => h9) dX8_round_157 ?_
    refine lv_bipush (v := 24) hx hb dX8_round_160 (by decide) ?_
    refine lv_iload_n hx hb dX8_round_162 rfl (lv_at hl 2 rfl) ?_
    refine lv_bipush (v := 15) hx hb dX8_round_163 (by decide) ?_
    refine lv_iadd hx hb dX8_round_165 ?_
    refine lv_imul hx hb dX8_round_166 ?_
    refine lv_iload_n hx hb dX8_round_167 rfl (lv_at hl 3 rfl) ?_
    refine lv_iadd hx hb dX8_round_168 ?_
    obtain ⟨v76, h77, hf⟩ := hs_bi hf
    refine x_iald hx hb hK hB h77 dX8_round_169 ?_
    obtain ⟨σ78, h79, hf⟩ := hs_bi hf
    refine x_iast hx hb hK hB hS h79 dX8_round_170 (fun H locs hB hS => ?_)
    refine lv_iinc (v := (x3 + 1)) (lv' := [(3, .int (x3 + 1)), (0, .ref (ad x0)), (1, .int x1), (2, .int x2)]) hx hb dX8_round_171 hl (k := 3) rfl rfl (by decide) rfl (fun ls hl => ?_)
    refine lv_goto (tgt := 115) hx hb dX8_round_174 (by decide) ?_
    exact hk115 σ78 x0 x1 x2 (x3 + 1) _ _ _ hf hB hS (lv_sub hl [1, 2, 3, 0] rfl)
set_option maxRecDepth 100000 in
set_option maxHeartbeats 4000000 in
theorem wX8_round_115 (fu : Nat) (C : hs_Cx p s m args meth c X A yX8_round cX8_round 4 (some .int) wsX8_round) (hem : ad hs_em = X.2.2.1.2.2.2) (k91 : hs_T → Nat → Int32 → Int32 → Option (Int32 × hs_T)) (hk91 : ∀ (σ : hs_T) (x0 : Nat) (x1 : Int32) (x2 : Int32) (H : Heap) (locs : List Loc) (ls : Array Slot), k91 σ x0 x1 x2 = some (r, τ) → hs_H X.1 X.2.1 ad A σ H → va_S A s.heap H locs → lv_has ls 4 [(0, .ref (ad x0)), (1, .int x1), (2, .int x2)] → W p l e rmX8_round s m args below meth c H locs 0 0 (MQ below (hs_Q0 hs_tvi X ad A r τ) args s 0 0 A) (F0 m 91 ls [])) {H : Heap} {locs : List Loc} {ls : Array Slot} (σ : hs_T) (x0 : Nat) (x1 : Int32) (x2 : Int32) (x3 : Int32) (hf : fX8_round_115 fu k91 σ x0 x1 x2 x3 = some (r, τ)) (hB : hs_H X.1 X.2.1 ad A σ H) (hS : va_S A s.heap H locs) (hl : lv_has ls 4 [(0, .ref (ad x0)), (1, .int x1), (2, .int x2), (3, .int x3)]) : W p l e rmX8_round s m args below meth c H locs 0 0 (MQ below (hs_Q0 hs_tvi X ad A r τ) args s 0 0 A) (F0 m 115 ls []) := by
  unfold fX8_round_115 at hf
  exact hs_lp_i (P := fun a => ∀ (H : Heap) (locs : List Loc) (ls : Array Slot), hs_H X.1 X.2.1 ad A a.1 H → va_S A s.heap H locs → lv_has ls 4 [(0, .ref (ad a.2.1)), (1, .int a.2.2.1), (2, .int a.2.2.2.1), (3, .int a.2.2.2.2)] → W p l e rmX8_round s m args below meth c H locs 0 0 (MQ below (hs_Q0 hs_tvi X ad A r τ) args s 0 0 A) (F0 m 115 ls [])) (fun k a hk hf H locs ls hB hS hl => wX8_round_115b fu C hem k91 hk91 _ (fun σ x0 x1 x2 x3 H locs ls hf hB hS hl => hk (σ, x0, x1, x2, x3) hf H locs ls hB hS hl) a.1 a.2.1 a.2.2.1 a.2.2.2.1 a.2.2.2.2 hf hB hS hl) fu (σ, x0, x1, x2, x3) hf H locs ls hB hS hl
set_option maxRecDepth 100000 in
set_option maxHeartbeats 4000000 in
theorem wX8_round_91b (fu : Nat) (C : hs_Cx p s m args meth c X A yX8_round cX8_round 4 (some .int) wsX8_round) (hem : ad hs_em = X.2.2.1.2.2.2)  (k91 : hs_T → Nat → Int32 → Int32 → Option (Int32 × hs_T)) (hk91 : ∀ (σ : hs_T) (x0 : Nat) (x1 : Int32) (x2 : Int32) (H : Heap) (locs : List Loc) (ls : Array Slot), k91 σ x0 x1 x2 = some (r, τ) → hs_H X.1 X.2.1 ad A σ H → va_S A s.heap H locs → lv_has ls 4 [(0, .ref (ad x0)), (1, .int x1), (2, .int x2)] → W p l e rmX8_round s m args below meth c H locs 0 0 (MQ below (hs_Q0 hs_tvi X ad A r τ) args s 0 0 A) (F0 m 91 ls [])) {H : Heap} {locs : List Loc} {ls : Array Slot} (σ : hs_T) (x0 : Nat) (x1 : Int32) (x2 : Int32) (hf : fX8_round_91b fu  k91 σ x0 x1 x2 = some (r, τ)) (hB : hs_H X.1 X.2.1 ad A σ H) (hS : va_S A s.heap H locs) (hl : lv_has ls 4 [(0, .ref (ad x0)), (1, .int x1), (2, .int x2)]) : W p l e rmX8_round s m args below meth c H locs 0 0 (MQ below (hs_Q0 hs_tvi X ad A r τ) args s 0 0 A) (F0 m 91 ls []) := by
  obtain ⟨hx, hb, hml, hr, hts, hown, hlk, hnm, hV, hA0, hA⟩ := id C
  have hown : s.vm.findClass RX8 = some m.cls := hown
  have hK := hV.1
  have hNw := hV.2.1
  unfold fX8_round_91b at hf
  refine lv_iload_n hx hb dX8_round_91 rfl (lv_at hl 2 rfl) ?_
  refine lv_iconst (v := 3) hx hb dX8_round_92 (by decide) ?_
  refine lv_aload_n hx hb dX8_round_93 rfl (lv_at hl 0 rfl) ?_
  obtain ⟨v17, h16, hf⟩ := hs_bi hf
  refine x_getI hx hb hts inX8_round_X8 hown hK hB (by decide) rfl (k := 0) (by decide) rfl h16 (hts _ lkX8_round_0) (fun _ h9 => h9) dX8_round_94 ?_
  refine lv_imul hx hb dX8_round_97 ?_
  refine lv_icmp_ge (tgt := 205) hx hb dX8_round_98 (by decide) (fun h18 => ?_) (fun h18 => ?_)
  · have hf := hs_tt h18 hf
    refine lv_iconst (v := 0) hx hb dX8_round_205 (by decide) ?_
    refine lv_istore_n (lv' := [(2, .int 0), (0, .ref (ad x0)), (1, .int x1)]) hx hb dX8_round_206 rfl hl (by decide) rfl (fun ls hl => ?_)
    exact wX8_round_207 fu C hem σ x0 x1 0 hf hB hS (lv_sub hl [1, 2, 0] rfl)
  · have hf := hs_ff h18 hf
    refine lv_aload_n hx hb dX8_round_101 rfl (lv_at hl 0 rfl) ?_
    obtain ⟨n47, h46, hf⟩ := hs_bi hf
    refine x_getN hx hb hts inX8_round_X8 hown hK hB (by decide) rfl (k := 6) (by decide) rfl h46 (hts _ lkX8_round_6) (fun _ h9 => h9) dX8_round_102 ?_
    refine lv_iload_n hx hb dX8_round_105 rfl (lv_at hl 2 rfl) ?_
    obtain ⟨v48, h49, hf⟩ := hs_bi hf
    refine x_zald hx hb hK hB h49 dX8_round_106 ?_
    refine lv_if_ne (tgt := 113) hx hb dX8_round_107 (by decide) (fun h50 => ?_) (fun h50 => ?_)
    · have hf := hs_ff h50 hf
      refine lv_iconst (v := 0) hx hb dX8_round_113 (by decide) ?_
      refine lv_istore_n (lv' := [(3, .int 0), (0, .ref (ad x0)), (1, .int x1), (2, .int x2)]) hx hb dX8_round_114 rfl hl (by decide) rfl (fun ls hl => ?_)
      exact wX8_round_115 fu C hem k91 hk91 σ x0 x1 x2 0 hf hB hS (lv_sub hl [1, 2, 3, 0] rfl)
    · have hf := hs_tt h50 hf
      refine lv_goto (tgt := 199) hx hb dX8_round_110 (by decide) ?_
      refine lv_iinc (v := (x2 + 1)) (lv' := [(2, .int (x2 + 1)), (0, .ref (ad x0)), (1, .int x1)]) hx hb dX8_round_199 hl (k := 2) rfl rfl (by decide) rfl (fun ls hl => ?_)
      refine lv_goto (tgt := 91) hx hb dX8_round_202 (by decide) ?_
      exact hk91 σ x0 x1 (x2 + 1) _ _ _ hf hB hS (lv_sub hl [1, 2, 0] rfl)
set_option maxRecDepth 100000 in
set_option maxHeartbeats 4000000 in
theorem wX8_round_91 (fu : Nat) (C : hs_Cx p s m args meth c X A yX8_round cX8_round 4 (some .int) wsX8_round) (hem : ad hs_em = X.2.2.1.2.2.2)  {H : Heap} {locs : List Loc} {ls : Array Slot} (σ : hs_T) (x0 : Nat) (x1 : Int32) (x2 : Int32) (hf : fX8_round_91 fu  σ x0 x1 x2 = some (r, τ)) (hB : hs_H X.1 X.2.1 ad A σ H) (hS : va_S A s.heap H locs) (hl : lv_has ls 4 [(0, .ref (ad x0)), (1, .int x1), (2, .int x2)]) : W p l e rmX8_round s m args below meth c H locs 0 0 (MQ below (hs_Q0 hs_tvi X ad A r τ) args s 0 0 A) (F0 m 91 ls []) := by
  unfold fX8_round_91 at hf
  exact hs_lp_i (P := fun a => ∀ (H : Heap) (locs : List Loc) (ls : Array Slot), hs_H X.1 X.2.1 ad A a.1 H → va_S A s.heap H locs → lv_has ls 4 [(0, .ref (ad a.2.1)), (1, .int a.2.2.1), (2, .int a.2.2.2)] → W p l e rmX8_round s m args below meth c H locs 0 0 (MQ below (hs_Q0 hs_tvi X ad A r τ) args s 0 0 A) (F0 m 91 ls [])) (fun k a hk hf H locs ls hB hS hl => wX8_round_91b fu C hem  _ (fun σ x0 x1 x2 H locs ls hf hB hS hl => hk (σ, x0, x1, x2) hf H locs ls hB hS hl) a.1 a.2.1 a.2.2.1 a.2.2.2 hf hB hS hl) fu (σ, x0, x1, x2) hf H locs ls hB hS hl
set_option maxRecDepth 100000 in
set_option maxHeartbeats 4000000 in
theorem wX8_round_24b (fu : Nat) (C : hs_Cx p s m args meth c X A yX8_round cX8_round 4 (some .int) wsX8_round) (hem : ad hs_em = X.2.2.1.2.2.2)  (k24 : hs_T → Nat → Int32 → Option (Int32 × hs_T)) (hk24 : ∀ (σ : hs_T) (x0 : Nat) (x1 : Int32) (H : Heap) (locs : List Loc) (ls : Array Slot), k24 σ x0 x1 = some (r, τ) → hs_H X.1 X.2.1 ad A σ H → va_S A s.heap H locs → lv_has ls 4 [(0, .ref (ad x0)), (1, .int x1)] → W p l e rmX8_round s m args below meth c H locs 0 0 (MQ below (hs_Q0 hs_tvi X ad A r τ) args s 0 0 A) (F0 m 24 ls [])) {H : Heap} {locs : List Loc} {ls : Array Slot} (σ : hs_T) (x0 : Nat) (x1 : Int32) (hf : fX8_round_24b fu  k24 σ x0 x1 = some (r, τ)) (hB : hs_H X.1 X.2.1 ad A σ H) (hS : va_S A s.heap H locs) (hl : lv_has ls 4 [(0, .ref (ad x0)), (1, .int x1)]) : W p l e rmX8_round s m args below meth c H locs 0 0 (MQ below (hs_Q0 hs_tvi X ad A r τ) args s 0 0 A) (F0 m 24 ls []) := by
  obtain ⟨hx, hb, hml, hr, hts, hown, hlk, hnm, hV, hA0, hA⟩ := id C
  have hown : s.vm.findClass RX8 = some m.cls := hown
  have hK := hV.1
  have hNw := hV.2.1
  unfold fX8_round_24b at hf
  refine lv_iload_n hx hb dX8_round_24 rfl (lv_at hl 1 rfl) ?_
  refine lv_aload_n hx hb dX8_round_25 rfl (lv_at hl 0 rfl) ?_
  obtain ⟨v8, h7, hf⟩ := hs_bi hf
  refine x_getI hx hb hts inX8_round_X8 hown hK hB (by decide) rfl (k := 28) (by decide) rfl h7 (hts _ lkX8_round_2) (fun _ h9 => h9) dX8_round_26 ?_
  refine lv_icmp_ge (tgt := 74) hx hb dX8_round_29 (by decide) (fun h9 => ?_) (fun h9 => ?_)
  · have hf := hs_tt h9 hf
    refine lv_aload_n hx hb dX8_round_74 rfl (lv_at hl 0 rfl) ?_
    refine lv_aload_n hx hb dX8_round_75 rfl (lv_at hl 0 rfl) ?_
    obtain ⟨v11, h10, hf⟩ := hs_bi hf
    refine x_getI hx hb hts inX8_round_X8 hown hK hB (by decide) rfl (k := 28) (by decide) rfl h10 (hts _ lkX8_round_2) (fun _ h9 => h9) dX8_round_76 ?_
    obtain ⟨σ13, h12, hf⟩ := hs_bi hf
    refine x_putI hx hb hts inX8_round_X8 tyX8_ok nmX8 hown hK hB hS (by decide) rfl (k := 29) (by decide) rfl h12 (hts _ lkX8_round_3) (fun _ h9 => h9) rfl (by decide +kernel) dX8_round_79 (fun H locs hB hS => ?_)
    refine lv_aload_n hx hb dX8_round_82 rfl (lv_at hl 0 rfl) ?_
    refine lv_iconst (v := 0) hx hb dX8_round_83 (by decide) ?_
    obtain ⟨σ15, h14, hf⟩ := hs_bi hf
    refine x_putI hx hb hts inX8_round_X8 tyX8_ok nmX8 hown hK hB hS (by decide) rfl (k := 28) (by decide) rfl h14 (hts _ lkX8_round_2) (fun _ h9 => h9) rfl (by decide +kernel) dX8_round_84 (fun H locs hB hS => ?_)
    refine lv_iconst (v := 0) hx hb dX8_round_87 (by decide) ?_
    refine lv_istore_n (lv' := [(1, .int 0), (0, .ref (ad x0))]) hx hb dX8_round_88 rfl hl (by decide) rfl (fun ls hl => ?_)
    refine lv_iconst (v := 0) hx hb dX8_round_89 (by decide) ?_
    refine lv_istore_n (lv' := [(2, .int 0), (1, .int 0), (0, .ref (ad x0))]) hx hb dX8_round_90 rfl hl (by decide) rfl (fun ls hl => ?_)
    exact wX8_round_91 fu C hem σ15 x0 0 0 hf hB hS (lv_sub hl [2, 1, 0] rfl)
  · have hf := hs_ff h9 hf
    refine lv_aload_n hx hb dX8_round_32 rfl (lv_at hl 0 rfl) ?_
    obtain ⟨n81, h80, hf⟩ := hs_bi hf
    refine x_getN hx hb hts inX8_round_X8 hown hK hB (by decide) rfl (k := 25) (by decide) rfl h80 (hts _ lkX8_round_10) (fun _ h9 => h9) dX8_round_33 ?_
    refine lv_iload_n hx hb dX8_round_36 rfl (lv_at hl 1 rfl) ?_
    refine lv_aload_n hx hb dX8_round_37 rfl (lv_at hl 0 rfl) ?_
    obtain ⟨n83, h82, hf⟩ := hs_bi hf
    refine x_getN hx hb hts inX8_round_X8 hown hK hB (by decide) rfl (k := 22) (by decide) rfl h82 (hts _ lkX8_round_11) (fun _ h9 => h9) dX8_round_38 ?_
    refine lv_iload_n hx hb dX8_round_41 rfl (lv_at hl 1 rfl) ?_
    obtain ⟨v84, h85, hf⟩ := hs_bi hf
    refine x_iald hx hb hK hB h85 dX8_round_42 ?_
    obtain ⟨σ86, h87, hf⟩ := hs_bi hf
    refine x_iast hx hb hK hB hS h87 dX8_round_43 (fun H locs hB hS => ?_)
    refine lv_aload_n hx hb dX8_round_44 rfl (lv_at hl 0 rfl) ?_
    obtain ⟨n89, h88, hf⟩ := hs_bi hf
    refine x_getN hx hb hts inX8_round_X8 hown hK hB (by decide) rfl (k := 26) (by decide) rfl h88 (hts _ lkX8_round_12) (fun _ h9 => h9) dX8_round_45 ?_
    refine lv_iload_n hx hb dX8_round_48 rfl (lv_at hl 1 rfl) ?_
    refine lv_aload_n hx hb dX8_round_49 rfl (lv_at hl 0 rfl) ?_
    obtain ⟨n91, h90, hf⟩ := hs_bi hf
    refine x_getN hx hb hts inX8_round_X8 hown hK hB (by decide) rfl (k := 23) (by decide) rfl h90 (hts _ lkX8_round_13) (fun _ h9 => h9) dX8_round_50 ?_
    refine lv_iload_n hx hb dX8_round_53 rfl (lv_at hl 1 rfl) ?_
    obtain ⟨v92, h93, hf⟩ := hs_bi hf
    refine x_iald hx hb hK hB h93 dX8_round_54 ?_
    obtain ⟨σ94, h95, hf⟩ := hs_bi hf
    refine x_iast hx hb hK hB hS h95 dX8_round_55 (fun H locs hB hS => ?_)
    refine lv_aload_n hx hb dX8_round_56 rfl (lv_at hl 0 rfl) ?_
    obtain ⟨n97, h96, hf⟩ := hs_bi hf
    refine x_getN hx hb hts inX8_round_X8 hown hK hB (by decide) rfl (k := 27) (by decide) rfl h96 (hts _ lkX8_round_14) (fun _ h9 => h9) dX8_round_57 ?_
    refine lv_iload_n hx hb dX8_round_60 rfl (lv_at hl 1 rfl) ?_
    refine lv_aload_n hx hb dX8_round_61 rfl (lv_at hl 0 rfl) ?_
    obtain ⟨n99, h98, hf⟩ := hs_bi hf
    refine x_getN hx hb hts inX8_round_X8 hown hK hB (by decide) rfl (k := 24) (by decide) rfl h98 (hts _ lkX8_round_15) (fun _ h9 => h9) dX8_round_62 ?_
    refine lv_iload_n hx hb dX8_round_65 rfl (lv_at hl 1 rfl) ?_
    obtain ⟨v100, h101, hf⟩ := hs_bi hf
    refine x_iald hx hb hK hB h101 dX8_round_66 ?_
    obtain ⟨σ102, h103, hf⟩ := hs_bi hf
    refine x_iast hx hb hK hB hS h103 dX8_round_67 (fun H locs hB hS => ?_)
    refine lv_iinc (v := (x1 + 1)) (lv' := [(1, .int (x1 + 1)), (0, .ref (ad x0))]) hx hb dX8_round_68 hl (k := 1) rfl rfl (by decide) rfl (fun ls hl => ?_)
    refine lv_goto (tgt := 24) hx hb dX8_round_71 (by decide) ?_
    exact hk24 σ102 x0 (x1 + 1) _ _ _ hf hB hS (lv_sub hl [1, 0] rfl)
set_option maxRecDepth 100000 in
set_option maxHeartbeats 4000000 in
theorem wX8_round_24 (fu : Nat) (C : hs_Cx p s m args meth c X A yX8_round cX8_round 4 (some .int) wsX8_round) (hem : ad hs_em = X.2.2.1.2.2.2)  {H : Heap} {locs : List Loc} {ls : Array Slot} (σ : hs_T) (x0 : Nat) (x1 : Int32) (hf : fX8_round_24 fu  σ x0 x1 = some (r, τ)) (hB : hs_H X.1 X.2.1 ad A σ H) (hS : va_S A s.heap H locs) (hl : lv_has ls 4 [(0, .ref (ad x0)), (1, .int x1)]) : W p l e rmX8_round s m args below meth c H locs 0 0 (MQ below (hs_Q0 hs_tvi X ad A r τ) args s 0 0 A) (F0 m 24 ls []) := by
  unfold fX8_round_24 at hf
  exact hs_lp_i (P := fun a => ∀ (H : Heap) (locs : List Loc) (ls : Array Slot), hs_H X.1 X.2.1 ad A a.1 H → va_S A s.heap H locs → lv_has ls 4 [(0, .ref (ad a.2.1)), (1, .int a.2.2)] → W p l e rmX8_round s m args below meth c H locs 0 0 (MQ below (hs_Q0 hs_tvi X ad A r τ) args s 0 0 A) (F0 m 24 ls [])) (fun k a hk hf H locs ls hB hS hl => wX8_round_24b fu C hem  _ (fun σ x0 x1 H locs ls hf hB hS hl => hk (σ, x0, x1) hf H locs ls hB hS hl) a.1 a.2.1 a.2.2 hf hB hS hl) fu (σ, x0, x1) hf H locs ls hB hS hl
set_option maxRecDepth 100000 in
set_option maxHeartbeats 4000000 in
theorem wX8_round_e (fu : Nat) (C : hs_Cx p s m args meth c X A yX8_round cX8_round 4 (some .int) wsX8_round) (hem : ad hs_em = X.2.2.1.2.2.2) {H : Heap} {locs : List Loc} {ls : Array Slot} (σ : hs_T) (o : Nat) (hf : fX8_round fu σ o = some (r, τ)) (hB : hs_H X.1 X.2.1 ad A σ H) (hS : va_S A s.heap H locs) (hl : lv_has ls 4 [(0, .ref (ad o))]) : W p l e rmX8_round s m args below meth c H locs 0 0 (MQ below (hs_Q0 hs_tvi X ad A r τ) args s 0 0 A) (F0 m 0 ls []) := by
  obtain ⟨hx, hb, hml, hr, hts, hown, hlk, hnm, hV, hA0, hA⟩ := id C
  have hown : s.vm.findClass RX8 = some m.cls := hown
  have hK := hV.1
  have hNw := hV.2.1
  unfold fX8_round at hf
  refine lv_aload_n hx hb dX8_round_0 rfl (lv_at hl 0 rfl) ?_
  obtain ⟨v2, h1, hf⟩ := hs_bi hf
  refine x_getI hx hb hts inX8_round_X8 hown hK hB (by decide) rfl (k := 0) (by decide) rfl h1 (hts _ lkX8_round_0) (fun _ h9 => h9) dX8_round_1 ?_
  refine lv_if_ne (tgt := 10) hx hb dX8_round_4 (by decide) (fun h3 => ?_) (fun h3 => ?_)
  · have hf := hs_ff h3 hf
    refine lv_aload_n hx hb dX8_round_10 rfl (lv_at hl 0 rfl) ?_
    obtain ⟨v5, h4, hf⟩ := hs_bi hf
    refine x_getI hx hb hts inX8_round_X8 hown hK hB (by decide) rfl (k := 1) (by decide) rfl h4 (hts _ lkX8_round_1) (fun _ h9 => h9) dX8_round_11 ?_
    refine lv_bipush (v := 100) hx hb dX8_round_14 (by decide) ?_
    refine lv_icmp_ne (tgt := 22) hx hb dX8_round_16 (by decide) (fun h6 => ?_) (fun h6 => ?_)
    · have hf := hs_ff h6 hf
      refine lv_iconst (v := 0) hx hb dX8_round_22 (by decide) ?_
      refine lv_istore_n (lv' := [(1, .int 0), (0, .ref (ad o))]) hx hb dX8_round_23 rfl hl (by decide) rfl (fun ls hl => ?_)
      exact wX8_round_24 fu C hem σ o 0 hf hB hS (lv_sub hl [1, 0] rfl)
    · have hf := hs_tt h6 hf
      refine lv_bipush (v := (-4)) hx hb dX8_round_19 (by decide) ?_
      obtain ⟨rfl, rfl⟩ := hs_ri hf
      exact hs_iret hx hb hr hlk hB hS dX8_round_21
  · have hf := hs_tt h3 hf
    refine lv_bipush (v := (-3)) hx hb dX8_round_7 (by decide) ?_
    obtain ⟨rfl, rfl⟩ := hs_ri hf
    exact hs_iret hx hb hr hlk hB hS dX8_round_9
end SX8_round
set_option maxRecDepth 100000 in
theorem ctX8_round (l : Launch) (fu : Nat) (σ : hs_T) (o : Nat) : hs_C0 hs_tvi l yX8_round wsX8_round rmX8_round (fun ad => [.ref (ad o)]) σ (fX8_round fu σ o) := by
  intro X ad sz r τ hf
  refine hs_enter (cc := cX8_round) (maxL := 4) (ret := (some .int)) (by decide) rfl (Nat.le_of_ble_eq_true rfl) ?_
  intro p e s m below meth c ls C hl hem hB hS hsz
  exact wX8_round_e fu C hem σ o hf hB hS hl
/-! ServiceGameModel.up(III)I -/
abbrev rmX8_up : Room := { frames := 2, cells := 0, slots := 0, locals := 47 }
theorem inX8_up_X8 : ∀ w ∈ wsX80, w ∈ wsX8_up := fun _ h => List.mem_cons_of_mem _ (List.mem_append_right _ h)
theorem lkX8_up_0 : Cond.fieldLink RX8 118 "ServiceGameModel" "rounds" "I" ∈ wsX8_up := by decide +kernel
theorem lkX8_up_1 : Cond.fieldLink RX8 71 "ServiceGameModel" "isUp" "[Z" ∈ wsX8_up := by decide +kernel
def fX8_up (fu : Nat) (σ : hs_T) (o : Nat) (a1 : Int32) (a2 : Int32) (a3 : Int32) : Option (Int32 × hs_T) :=
 (hs_ck σ 10 o).bind fun _ =>
 hs_b2 (fX8_isPlace fu σ o a1 a2) fun v4 σ2 =>
 if v4 = 0 then
 (some ((-1), σ2))
 else
 ((hs_gI σ2 10 o 1).bind fun v7 =>
 hs_b2 (fX8_isIn fu σ2 a3.toInt64 0 ((v7 - 1).toInt64)) fun v10 σ9 =>
 if v10 = 0 then
 (some ((-1), σ9))
 else
 ((hs_gN σ9 10 o 31).bind fun n13 =>
 (hs_ld σ9 12 n13 (((15 * a3) + (3 * a1)) + a2)).bind fun v14 =>
 if v14 = 0 then
 (some (0, σ9))
 else
 (some (1, σ9))))
section SX8_up
variable {p : Program} {l : Launch} {e : Env} {s : State} {m : MethodId} {args : Array Value} {below : List Frame} {meth : Method} {c : Code} {X : hs_X} {ad : Nat → Nat} {A : Nat → Prop} {r : Int32} {τ : hs_T}
set_option maxRecDepth 100000 in
set_option maxHeartbeats 4000000 in
theorem wX8_up_e (fu : Nat) (C : hs_Cx p s m args meth c X A yX8_up cX8_up 4 (some .int) wsX8_up) (hem : ad hs_em = X.2.2.1.2.2.2) {H : Heap} {locs : List Loc} {ls : Array Slot} (σ : hs_T) (o : Nat) (a1 : Int32) (a2 : Int32) (a3 : Int32) (hf : fX8_up fu σ o a1 a2 a3 = some (r, τ)) (hB : hs_H X.1 X.2.1 ad A σ H) (hS : va_S A s.heap H locs) (hl : lv_has ls 4 [(0, .ref (ad o)), (1, .int a1), (2, .int a2), (3, .int a3)]) : W p l e rmX8_up s m args below meth c H locs 0 0 (MQ below (hs_Q0 hs_tvi X ad A r τ) args s 0 0 A) (F0 m 0 ls []) := by
  obtain ⟨hx, hb, hml, hr, hts, hown, hlk, hnm, hV, hA0, hA⟩ := id C
  have hown : s.vm.findClass RX8 = some m.cls := hown
  have hK := hV.1
  have hNw := hV.2.1
  unfold fX8_up at hf
  refine lv_aload_n hx hb dX8_up_0 rfl (lv_at hl 0 rfl) ?_
  refine lv_iload_n hx hb dX8_up_1 rfl (lv_at hl 1 rfl) ?_
  refine lv_iload_n hx hb dX8_up_2 rfl (lv_at hl 2 rfl) ?_
  obtain ⟨_, h3, hf⟩ := hs_bi hf
  obtain ⟨v4, σ2, h1, hf⟩ := hs_b2i hf
  refine hs_call0 (va_runV (As := [.int a1, .int a2]) (rest := []) ⟨hx, hb, hml, hown, hts⟩ (ctX8_isPlace l fu σ o a1 a2 X ad H.size _ _ h1) (cwV 2 hts gX8_up_X8_isPlace rfl rfl rfl (by decide +kernel) ⟨Nat.le_of_ble_eq_true rfl, Nat.le_of_ble_eq_true rfl⟩) (hs_preV (hs_recv hK hB (hs_ck_i h3) (by decide) rfl) hV hB hS hA0 hA hem) rfl rfl hl.1 rfl (lv_room (Nat.le_of_ble_eq_true rfl)) dX8_up_3 ⟨Nat.le_of_ble_eq_true rfl, Nat.le_of_ble_eq_true rfl⟩) hB hS hA rfl (fun H locs hB hS => ?_)
  refine lv_if_eq (tgt := 51) hx hb dX8_up_6 (by decide) (fun h5 => ?_) (fun h5 => ?_)
  · have hf := hs_tt h5 hf
    refine lv_iconst (v := (-1)) hx hb dX8_up_51 (by decide) ?_
    obtain ⟨rfl, rfl⟩ := hs_ri hf
    exact hs_iret hx hb hr hlk hB hS dX8_up_52
  · have hf := hs_ff h5 hf
    refine lv_iload_n hx hb dX8_up_9 rfl (lv_at hl 3 rfl) ?_
    refine lv_i2l hx hb dX8_up_10 rfl ?_
    refine lv_lconst (v := 0) hx hb dX8_up_11 (by decide) ?_
    refine lv_aload_n hx hb dX8_up_12 rfl (lv_at hl 0 rfl) ?_
    obtain ⟨v7, h6, hf⟩ := hs_bi hf
    refine x_getI hx hb hts inX8_up_X8 hown hK hB (by decide) rfl (k := 1) (by decide) rfl h6 (hts _ lkX8_up_0) (fun _ h9 => h9) dX8_up_13 ?_
    refine lv_iconst (v := 1) hx hb dX8_up_16 (by decide) ?_
    refine lv_isub hx hb dX8_up_17 ?_
    refine lv_i2l hx hb dX8_up_18 rfl ?_
    obtain ⟨v10, σ9, h8, hf⟩ := hs_b2i hf
    refine hs_call0 (va_runS (As := [.long a3.toInt64, .long 0, .long ((v7 - 1).toInt64)]) (rest := []) ⟨hx, hb, hml, hown, hts⟩ (ctX8_isIn l fu σ2 a3.toInt64 0 ((v7 - 1).toInt64) X ad H.size _ _ h8) (va_cwS 3 hts gX8_up_X8_isIn rfl rfl rfl (by decide +kernel) ⟨Nat.le_of_ble_eq_true rfl, Nat.le_of_ble_eq_true rfl⟩) (hs_pre hV hB hS hA0 hA hem) rfl rfl hl.1 rfl (lv_room (Nat.le_of_ble_eq_true rfl)) dX8_up_19 ⟨Nat.le_of_ble_eq_true rfl, Nat.le_of_ble_eq_true rfl⟩) hB hS hA rfl (fun H locs hB hS => ?_)
    refine lv_if_eq (tgt := 51) hx hb dX8_up_22 (by decide) (fun h11 => ?_) (fun h11 => ?_)
    · have hf := hs_tt h11 hf
      refine lv_iconst (v := (-1)) hx hb dX8_up_51 (by decide) ?_
      obtain ⟨rfl, rfl⟩ := hs_ri hf
      exact hs_iret hx hb hr hlk hB hS dX8_up_52
    · have hf := hs_ff h11 hf
      refine lv_aload_n hx hb dX8_up_25 rfl (lv_at hl 0 rfl) ?_
      obtain ⟨n13, h12, hf⟩ := hs_bi hf
      refine x_getN hx hb hts inX8_up_X8 hown hK hB (by decide) rfl (k := 31) (by decide) rfl h12 (hts _ lkX8_up_1) (fun _ h9 => h9) dX8_up_26 ?_
      refine lv_bipush (v := 15) hx hb dX8_up_29 (by decide) ?_
      refine lv_iload_n hx hb dX8_up_31 rfl (lv_at hl 3 rfl) ?_
      refine lv_imul hx hb dX8_up_32 ?_
      refine lv_iconst (v := 3) hx hb dX8_up_33 (by decide) ?_
      refine lv_iload_n hx hb dX8_up_34 rfl (lv_at hl 1 rfl) ?_
      refine lv_imul hx hb dX8_up_35 ?_
      refine lv_iadd hx hb dX8_up_36 ?_
      refine lv_iload_n hx hb dX8_up_37 rfl (lv_at hl 2 rfl) ?_
      refine lv_iadd hx hb dX8_up_38 ?_
      obtain ⟨v14, h15, hf⟩ := hs_bi hf
      refine x_zald hx hb hK hB h15 dX8_up_39 ?_
      refine lv_if_eq (tgt := 47) hx hb dX8_up_40 (by decide) (fun h16 => ?_) (fun h16 => ?_)
      · have hf := hs_tt h16 hf
        refine lv_iconst (v := 0) hx hb dX8_up_47 (by decide) ?_
        refine lv_goto (tgt := 52) hx hb dX8_up_48 (by decide) ?_
        obtain ⟨rfl, rfl⟩ := hs_ri hf
        exact hs_iret hx hb hr hlk hB hS dX8_up_52
      · have hf := hs_ff h16 hf
        refine lv_iconst (v := 1) hx hb dX8_up_43 (by decide) ?_
        refine lv_goto (tgt := 52) hx hb dX8_up_44 (by decide) ?_
        obtain ⟨rfl, rfl⟩ := hs_ri hf
        exact hs_iret hx hb hr hlk hB hS dX8_up_52
end SX8_up
set_option maxRecDepth 100000 in
theorem ctX8_up (l : Launch) (fu : Nat) (σ : hs_T) (o : Nat) (a1 : Int32) (a2 : Int32) (a3 : Int32) : hs_C0 hs_tvi l yX8_up wsX8_up rmX8_up (fun ad => [.ref (ad o), .int a1, .int a2, .int a3]) σ (fX8_up fu σ o a1 a2 a3) := by
  intro X ad sz r τ hf
  refine hs_enter (cc := cX8_up) (maxL := 4) (ret := (some .int)) (by decide) rfl (Nat.le_of_ble_eq_true rfl) ?_
  intro p e s m below meth c ls C hl hem hB hS hsz
  exact wX8_up_e fu C hem σ o a1 a2 a3 hf hB hS hl
/-! ServiceGameModel.check(IIII)I -/
abbrev rmX8_check : Room := { frames := 2, cells := 0, slots := 0, locals := 47 }
theorem inX8_check_X8 : ∀ w ∈ wsX80, w ∈ wsX8_check := fun _ h => List.mem_cons_of_mem _ (List.mem_append_right _ h)
theorem lkX8_check_0 : Cond.constantLong RX8 112 (2) ∈ wsX8_check := by decide +kernel
theorem lkX8_check_1 : Cond.fieldLink RX8 118 "ServiceGameModel" "rounds" "I" ∈ wsX8_check := by decide +kernel
theorem lkX8_check_2 : Cond.fieldLink RX8 74 "ServiceGameModel" "which" "[I" ∈ wsX8_check := by decide +kernel
theorem lkX8_check_3 : Cond.fieldLink RX8 77 "ServiceGameModel" "second" "[I" ∈ wsX8_check := by decide +kernel
theorem lkX8_check_4 : Cond.fieldLink RX8 80 "ServiceGameModel" "answer" "[I" ∈ wsX8_check := by decide +kernel
theorem lkX8_check_5 : Cond.fieldLink RX8 83 "ServiceGameModel" "good" "[I" ∈ wsX8_check := by decide +kernel
def fX8_check (fu : Nat) (σ : hs_T) (o : Nat) (a1 : Int32) (a2 : Int32) (a3 : Int32) (a4 : Int32) : Option (Int32 × hs_T) :=
 (hs_ck σ 10 o).bind fun _ =>
 hs_b2 (fX8_isPlace fu σ o a1 a2) fun v4 σ2 =>
 if v4 = 0 then
 (some ((-1), σ2))
 else
 (hs_b2 (fX8_isIn fu σ2 a3.toInt64 0 2) fun v8 σ7 =>
 if v8 = 0 then
 (some ((-1), σ7))
 else
 ((hs_gI σ7 10 o 1).bind fun v11 =>
 if v11 = 0 then
 (some ((-1), σ7))
 else
 (if a4 = 0 then
 ((hs_gN σ7 10 o 32).bind fun n15 =>
 (hs_ld σ7 11 n15 ((3 * ((3 * a1) + a2)) + a3)).bind fun v16 =>
 some (v16, σ7))
 else
 if a4 = 1 then
 ((hs_gN σ7 10 o 33).bind fun n20 =>
 (hs_ld σ7 11 n20 ((3 * ((3 * a1) + a2)) + a3)).bind fun v21 =>
 some (v21, σ7))
 else
 if a4 = 2 then
 ((hs_gN σ7 10 o 34).bind fun n25 =>
 (hs_ld σ7 11 n25 ((3 * ((3 * a1) + a2)) + a3)).bind fun v26 =>
 some (v26, σ7))
 else
 if a4 = 3 then
 ((hs_gN σ7 10 o 35).bind fun n30 =>
 (hs_ld σ7 11 n30 ((3 * ((3 * a1) + a2)) + a3)).bind fun v31 =>
 some (v31, σ7))
 else
 (some ((-1), σ7)))))
section SX8_check
variable {p : Program} {l : Launch} {e : Env} {s : State} {m : MethodId} {args : Array Value} {below : List Frame} {meth : Method} {c : Code} {X : hs_X} {ad : Nat → Nat} {A : Nat → Prop} {r : Int32} {τ : hs_T}
set_option maxRecDepth 100000 in
set_option maxHeartbeats 4000000 in
theorem wX8_check_e (fu : Nat) (C : hs_Cx p s m args meth c X A yX8_check cX8_check 6 (some .int) wsX8_check) (hem : ad hs_em = X.2.2.1.2.2.2) {H : Heap} {locs : List Loc} {ls : Array Slot} (σ : hs_T) (o : Nat) (a1 : Int32) (a2 : Int32) (a3 : Int32) (a4 : Int32) (hf : fX8_check fu σ o a1 a2 a3 a4 = some (r, τ)) (hB : hs_H X.1 X.2.1 ad A σ H) (hS : va_S A s.heap H locs) (hl : lv_has ls 6 [(0, .ref (ad o)), (1, .int a1), (2, .int a2), (3, .int a3), (4, .int a4)]) : W p l e rmX8_check s m args below meth c H locs 0 0 (MQ below (hs_Q0 hs_tvi X ad A r τ) args s 0 0 A) (F0 m 0 ls []) := by
  obtain ⟨hx, hb, hml, hr, hts, hown, hlk, hnm, hV, hA0, hA⟩ := id C
  have hown : s.vm.findClass RX8 = some m.cls := hown
  have hK := hV.1
  have hNw := hV.2.1
  unfold fX8_check at hf
  refine lv_aload_n hx hb dX8_check_0 rfl (lv_at hl 0 rfl) ?_
  refine lv_iload_n hx hb dX8_check_1 rfl (lv_at hl 1 rfl) ?_
  refine lv_iload_n hx hb dX8_check_2 rfl (lv_at hl 2 rfl) ?_
  obtain ⟨_, h3, hf⟩ := hs_bi hf
  obtain ⟨v4, σ2, h1, hf⟩ := hs_b2i hf
  refine hs_call0 (va_runV (As := [.int a1, .int a2]) (rest := []) ⟨hx, hb, hml, hown, hts⟩ (ctX8_isPlace l fu σ o a1 a2 X ad H.size _ _ h1) (cwV 2 hts gX8_check_X8_isPlace rfl rfl rfl (by decide +kernel) ⟨Nat.le_of_ble_eq_true rfl, Nat.le_of_ble_eq_true rfl⟩) (hs_preV (hs_recv hK hB (hs_ck_i h3) (by decide) rfl) hV hB hS hA0 hA hem) rfl rfl hl.1 rfl (lv_room (Nat.le_of_ble_eq_true rfl)) dX8_check_3 ⟨Nat.le_of_ble_eq_true rfl, Nat.le_of_ble_eq_true rfl⟩) hB hS hA rfl (fun H locs hB hS => ?_)
  refine lv_if_eq (tgt := 28) hx hb dX8_check_6 (by decide) (fun h5 => ?_) (fun h5 => ?_)
  · have hf := hs_tt h5 hf
    refine lv_iconst (v := (-1)) hx hb dX8_check_28 (by decide) ?_
    obtain ⟨rfl, rfl⟩ := hs_ri hf
    exact hs_iret hx hb hr hlk hB hS dX8_check_29
  · have hf := hs_ff h5 hf
    refine lv_iload_n hx hb dX8_check_9 rfl (lv_at hl 3 rfl) ?_
    refine lv_i2l hx hb dX8_check_10 rfl ?_
    refine lv_lconst (v := 0) hx hb dX8_check_11 (by decide) ?_
    refine lv_ldc2 hx hb hown (hts _ lkX8_check_0) dX8_check_12 ?_
    obtain ⟨v8, σ7, h6, hf⟩ := hs_b2i hf
    refine hs_call0 (va_runS (As := [.long a3.toInt64, .long 0, .long 2]) (rest := []) ⟨hx, hb, hml, hown, hts⟩ (ctX8_isIn l fu σ2 a3.toInt64 0 2 X ad H.size _ _ h6) (va_cwS 3 hts gX8_check_X8_isIn rfl rfl rfl (by decide +kernel) ⟨Nat.le_of_ble_eq_true rfl, Nat.le_of_ble_eq_true rfl⟩) (hs_pre hV hB hS hA0 hA hem) rfl rfl hl.1 rfl (lv_room (Nat.le_of_ble_eq_true rfl)) dX8_check_15 ⟨Nat.le_of_ble_eq_true rfl, Nat.le_of_ble_eq_true rfl⟩) hB hS hA rfl (fun H locs hB hS => ?_)
    refine lv_if_eq (tgt := 28) hx hb dX8_check_18 (by decide) (fun h9 => ?_) (fun h9 => ?_)
    · have hf := hs_tt h9 hf
      refine lv_iconst (v := (-1)) hx hb dX8_check_28 (by decide) ?_
      obtain ⟨rfl, rfl⟩ := hs_ri hf
      exact hs_iret hx hb hr hlk hB hS dX8_check_29
    · have hf := hs_ff h9 hf
      refine lv_aload_n hx hb dX8_check_21 rfl (lv_at hl 0 rfl) ?_
      obtain ⟨v11, h10, hf⟩ := hs_bi hf
      refine x_getI hx hb hts inX8_check_X8 hown hK hB (by decide) rfl (k := 1) (by decide) rfl h10 (hts _ lkX8_check_1) (fun _ h9 => h9) dX8_check_22 ?_
      refine lv_if_ne (tgt := 30) hx hb dX8_check_25 (by decide) (fun h12 => ?_) (fun h12 => ?_)
      · have hf := hs_ff h12 hf
        refine lv_iconst (v := 3) hx hb dX8_check_30 (by decide) ?_
        refine lv_iconst (v := 3) hx hb dX8_check_31 (by decide) ?_
        refine lv_iload_n hx hb dX8_check_32 rfl (lv_at hl 1 rfl) ?_
        refine lv_imul hx hb dX8_check_33 ?_
        refine lv_iload_n hx hb dX8_check_34 rfl (lv_at hl 2 rfl) ?_
        refine lv_iadd hx hb dX8_check_35 ?_
        refine lv_imul hx hb dX8_check_36 ?_
        refine lv_iload_n hx hb dX8_check_37 rfl (lv_at hl 3 rfl) ?_
        refine lv_iadd hx hb dX8_check_38 ?_
        refine lv_istore (lv' := [(5, .int ((3 * ((3 * a1) + a2)) + a3)), (0, .ref (ad o)), (1, .int a1), (2, .int a2), (3, .int a3), (4, .int a4)]) hx hb dX8_check_39 hl (by decide) rfl (fun ls hl => ?_)
        refine lv_iload hx hb dX8_check_41 (lv_at hl 5 rfl) ?_
        by_cases h13 : a4 = 0
        · have hf := hs_tt h13 hf
          refine lv_tableIn (tgt := 72) hx hb dX8_check_43 (by rw [h13]; decide) (by rw [h13]; decide) (by rw [h13]; exact rfl) (by decide) ?_
          refine lv_aload_n hx hb dX8_check_72 rfl (lv_at hl 1 rfl) ?_
          obtain ⟨n15, h14, hf⟩ := hs_bi hf
          refine x_getN hx hb hts inX8_check_X8 hown hK hB (by decide) rfl (k := 32) (by decide) rfl h14 (hts _ lkX8_check_2) (fun _ h9 => h9) dX8_check_73 ?_
          refine lv_iload hx hb dX8_check_76 (lv_at hl 0 rfl) ?_
          obtain ⟨v16, h17, hf⟩ := hs_bi hf
          refine x_iald hx hb hK hB h17 dX8_check_78 ?_
          obtain ⟨rfl, rfl⟩ := hs_ri hf
          exact hs_iret hx hb hr hlk hB hS dX8_check_79
        have hf := hs_ff h13 hf
        by_cases h18 : a4 = 1
        · have hf := hs_tt h18 hf
          refine lv_tableIn (tgt := 80) hx hb dX8_check_43 (by rw [h18]; decide) (by rw [h18]; decide) (by rw [h18]; exact rfl) (by decide) ?_
          refine lv_aload_n hx hb dX8_check_80 rfl (lv_at hl 1 rfl) ?_
          obtain ⟨n20, h19, hf⟩ := hs_bi hf
          refine x_getN hx hb hts inX8_check_X8 hown hK hB (by decide) rfl (k := 33) (by decide) rfl h19 (hts _ lkX8_check_3) (fun _ h9 => h9) dX8_check_81 ?_
          refine lv_iload hx hb dX8_check_84 (lv_at hl 0 rfl) ?_
          obtain ⟨v21, h22, hf⟩ := hs_bi hf
          refine x_iald hx hb hK hB h22 dX8_check_86 ?_
          obtain ⟨rfl, rfl⟩ := hs_ri hf
          exact hs_iret hx hb hr hlk hB hS dX8_check_87
        have hf := hs_ff h18 hf
        by_cases h23 : a4 = 2
        · have hf := hs_tt h23 hf
          refine lv_tableIn (tgt := 88) hx hb dX8_check_43 (by rw [h23]; decide) (by rw [h23]; decide) (by rw [h23]; exact rfl) (by decide) ?_
          refine lv_aload_n hx hb dX8_check_88 rfl (lv_at hl 1 rfl) ?_
          obtain ⟨n25, h24, hf⟩ := hs_bi hf
          refine x_getN hx hb hts inX8_check_X8 hown hK hB (by decide) rfl (k := 34) (by decide) rfl h24 (hts _ lkX8_check_4) (fun _ h9 => h9) dX8_check_89 ?_
          refine lv_iload hx hb dX8_check_92 (lv_at hl 0 rfl) ?_
          obtain ⟨v26, h27, hf⟩ := hs_bi hf
          refine x_iald hx hb hK hB h27 dX8_check_94 ?_
          obtain ⟨rfl, rfl⟩ := hs_ri hf
          exact hs_iret hx hb hr hlk hB hS dX8_check_95
        have hf := hs_ff h23 hf
        by_cases h28 : a4 = 3
        · have hf := hs_tt h28 hf
          refine lv_tableIn (tgt := 96) hx hb dX8_check_43 (by rw [h28]; decide) (by rw [h28]; decide) (by rw [h28]; exact rfl) (by decide) ?_
          refine lv_aload_n hx hb dX8_check_96 rfl (lv_at hl 1 rfl) ?_
          obtain ⟨n30, h29, hf⟩ := hs_bi hf
          refine x_getN hx hb hts inX8_check_X8 hown hK hB (by decide) rfl (k := 35) (by decide) rfl h29 (hts _ lkX8_check_5) (fun _ h9 => h9) dX8_check_97 ?_
          refine lv_iload hx hb dX8_check_100 (lv_at hl 0 rfl) ?_
          obtain ⟨v31, h32, hf⟩ := hs_bi hf
          refine x_iald hx hb hK hB h32 dX8_check_102 ?_
          obtain ⟨rfl, rfl⟩ := hs_ri hf
          exact hs_iret hx hb hr hlk hB hS dX8_check_103
        have hf := hs_ff h28 hf
        refine lv_tableOut (tgt := 104) hx hb dX8_check_43 (by have g0 := lv_neT h13 (a := 0) (by decide); have g1 := lv_neT h18 (a := 1) (by decide); have g2 := lv_neT h23 (a := 2) (by decide); have g3 := lv_neT h28 (a := 3) (by decide); omega) (by decide) ?_
        refine lv_iconst (v := (-1)) hx hb dX8_check_104 (by decide) ?_
        obtain ⟨rfl, rfl⟩ := hs_ri hf
        exact hs_iret hx hb hr hlk hB hS dX8_check_105
      · have hf := hs_tt h12 hf
        refine lv_iconst (v := (-1)) hx hb dX8_check_28 (by decide) ?_
        obtain ⟨rfl, rfl⟩ := hs_ri hf
        exact hs_iret hx hb hr hlk hB hS dX8_check_29
end SX8_check
set_option maxRecDepth 100000 in
theorem ctX8_check (l : Launch) (fu : Nat) (σ : hs_T) (o : Nat) (a1 : Int32) (a2 : Int32) (a3 : Int32) (a4 : Int32) : hs_C0 hs_tvi l yX8_check wsX8_check rmX8_check (fun ad => [.ref (ad o), .int a1, .int a2, .int a3, .int a4]) σ (fX8_check fu σ o a1 a2 a3 a4) := by
  intro X ad sz r τ hf
  refine hs_enter (cc := cX8_check) (maxL := 6) (ret := (some .int)) (by decide) rfl (Nat.le_of_ble_eq_true rfl) ?_
  intro p e s m below meth c ls C hl hem hB hS hsz
  exact wX8_check_e fu C hem σ o a1 a2 a3 a4 hf hB hS hl
/-! ServiceGameModel.flag(III)I -/
abbrev rmX8_flag : Room := { frames := 2, cells := 0, slots := 0, locals := 47 }
theorem inX8_flag_X8 : ∀ w ∈ wsX80, w ∈ wsX8_flag := fun _ h => List.mem_cons_of_mem _ (List.mem_append_right _ h)
theorem lkX8_flag_0 : Cond.fieldLink RX8 118 "ServiceGameModel" "rounds" "I" ∈ wsX8_flag := by decide +kernel
def fX8_flag (fu : Nat) (σ : hs_T) (o : Nat) (a1 : Int32) (a2 : Int32) (a3 : Int32) : Option (Int32 × hs_T) :=
 (hs_ck σ 10 o).bind fun _ =>
 hs_b2 (fX8_isPlace fu σ o a1 a2) fun v4 σ2 =>
 if v4 = 0 then
 (some ((-1), σ2))
 else
 ((hs_gI σ2 10 o 1).bind fun v7 =>
 hs_b2 (fX8_isIn fu σ2 a3.toInt64 0 ((v7 - 1).toInt64)) fun v10 σ9 =>
 if v10 = 0 then
 (some ((-1), σ9))
 else
 ((hs_ck σ9 10 o).bind fun _ =>
 hs_b2 (fX8_flagOf fu σ9 o a3 ((3 * a1) + a2)) fun v15 σ13 =>
 some (v15, σ13)))
section SX8_flag
variable {p : Program} {l : Launch} {e : Env} {s : State} {m : MethodId} {args : Array Value} {below : List Frame} {meth : Method} {c : Code} {X : hs_X} {ad : Nat → Nat} {A : Nat → Prop} {r : Int32} {τ : hs_T}
set_option maxRecDepth 100000 in
set_option maxHeartbeats 4000000 in
theorem wX8_flag_e (fu : Nat) (C : hs_Cx p s m args meth c X A yX8_flag cX8_flag 4 (some .int) wsX8_flag) (hem : ad hs_em = X.2.2.1.2.2.2) {H : Heap} {locs : List Loc} {ls : Array Slot} (σ : hs_T) (o : Nat) (a1 : Int32) (a2 : Int32) (a3 : Int32) (hf : fX8_flag fu σ o a1 a2 a3 = some (r, τ)) (hB : hs_H X.1 X.2.1 ad A σ H) (hS : va_S A s.heap H locs) (hl : lv_has ls 4 [(0, .ref (ad o)), (1, .int a1), (2, .int a2), (3, .int a3)]) : W p l e rmX8_flag s m args below meth c H locs 0 0 (MQ below (hs_Q0 hs_tvi X ad A r τ) args s 0 0 A) (F0 m 0 ls []) := by
  obtain ⟨hx, hb, hml, hr, hts, hown, hlk, hnm, hV, hA0, hA⟩ := id C
  have hown : s.vm.findClass RX8 = some m.cls := hown
  have hK := hV.1
  have hNw := hV.2.1
  unfold fX8_flag at hf
  refine lv_aload_n hx hb dX8_flag_0 rfl (lv_at hl 0 rfl) ?_
  refine lv_iload_n hx hb dX8_flag_1 rfl (lv_at hl 1 rfl) ?_
  refine lv_iload_n hx hb dX8_flag_2 rfl (lv_at hl 2 rfl) ?_
  obtain ⟨_, h3, hf⟩ := hs_bi hf
  obtain ⟨v4, σ2, h1, hf⟩ := hs_b2i hf
  refine hs_call0 (va_runV (As := [.int a1, .int a2]) (rest := []) ⟨hx, hb, hml, hown, hts⟩ (ctX8_isPlace l fu σ o a1 a2 X ad H.size _ _ h1) (cwV 2 hts gX8_flag_X8_isPlace rfl rfl rfl (by decide +kernel) ⟨Nat.le_of_ble_eq_true rfl, Nat.le_of_ble_eq_true rfl⟩) (hs_preV (hs_recv hK hB (hs_ck_i h3) (by decide) rfl) hV hB hS hA0 hA hem) rfl rfl hl.1 rfl (lv_room (Nat.le_of_ble_eq_true rfl)) dX8_flag_3 ⟨Nat.le_of_ble_eq_true rfl, Nat.le_of_ble_eq_true rfl⟩) hB hS hA rfl (fun H locs hB hS => ?_)
  refine lv_if_eq (tgt := 38) hx hb dX8_flag_6 (by decide) (fun h5 => ?_) (fun h5 => ?_)
  · have hf := hs_tt h5 hf
    refine lv_iconst (v := (-1)) hx hb dX8_flag_38 (by decide) ?_
    obtain ⟨rfl, rfl⟩ := hs_ri hf
    exact hs_iret hx hb hr hlk hB hS dX8_flag_39
  · have hf := hs_ff h5 hf
    refine lv_iload_n hx hb dX8_flag_9 rfl (lv_at hl 3 rfl) ?_
    refine lv_i2l hx hb dX8_flag_10 rfl ?_
    refine lv_lconst (v := 0) hx hb dX8_flag_11 (by decide) ?_
    refine lv_aload_n hx hb dX8_flag_12 rfl (lv_at hl 0 rfl) ?_
    obtain ⟨v7, h6, hf⟩ := hs_bi hf
    refine x_getI hx hb hts inX8_flag_X8 hown hK hB (by decide) rfl (k := 1) (by decide) rfl h6 (hts _ lkX8_flag_0) (fun _ h9 => h9) dX8_flag_13 ?_
    refine lv_iconst (v := 1) hx hb dX8_flag_16 (by decide) ?_
    refine lv_isub hx hb dX8_flag_17 ?_
    refine lv_i2l hx hb dX8_flag_18 rfl ?_
    obtain ⟨v10, σ9, h8, hf⟩ := hs_b2i hf
    refine hs_call0 (va_runS (As := [.long a3.toInt64, .long 0, .long ((v7 - 1).toInt64)]) (rest := []) ⟨hx, hb, hml, hown, hts⟩ (ctX8_isIn l fu σ2 a3.toInt64 0 ((v7 - 1).toInt64) X ad H.size _ _ h8) (va_cwS 3 hts gX8_flag_X8_isIn rfl rfl rfl (by decide +kernel) ⟨Nat.le_of_ble_eq_true rfl, Nat.le_of_ble_eq_true rfl⟩) (hs_pre hV hB hS hA0 hA hem) rfl rfl hl.1 rfl (lv_room (Nat.le_of_ble_eq_true rfl)) dX8_flag_19 ⟨Nat.le_of_ble_eq_true rfl, Nat.le_of_ble_eq_true rfl⟩) hB hS hA rfl (fun H locs hB hS => ?_)
    refine lv_if_eq (tgt := 38) hx hb dX8_flag_22 (by decide) (fun h11 => ?_) (fun h11 => ?_)
    · have hf := hs_tt h11 hf
      refine lv_iconst (v := (-1)) hx hb dX8_flag_38 (by decide) ?_
      obtain ⟨rfl, rfl⟩ := hs_ri hf
      exact hs_iret hx hb hr hlk hB hS dX8_flag_39
    · have hf := hs_ff h11 hf
      refine lv_aload_n hx hb dX8_flag_25 rfl (lv_at hl 0 rfl) ?_
      refine lv_iload_n hx hb dX8_flag_26 rfl (lv_at hl 3 rfl) ?_
      refine lv_iconst (v := 3) hx hb dX8_flag_27 (by decide) ?_
      refine lv_iload_n hx hb dX8_flag_28 rfl (lv_at hl 1 rfl) ?_
      refine lv_imul hx hb dX8_flag_29 ?_
      refine lv_iload_n hx hb dX8_flag_30 rfl (lv_at hl 2 rfl) ?_
      refine lv_iadd hx hb dX8_flag_31 ?_
      obtain ⟨_, h14, hf⟩ := hs_bi hf
      obtain ⟨v15, σ13, h12, hf⟩ := hs_b2i hf
      refine hs_call0 (va_runV (As := [.int a3, .int ((3 * a1) + a2)]) (rest := []) ⟨hx, hb, hml, hown, hts⟩ (ctX8_flagOf l fu σ9 o a3 ((3 * a1) + a2) X ad H.size _ _ h12) (cwV 2 hts gX8_flag_X8_flagOf rfl rfl rfl (by decide +kernel) ⟨Nat.le_of_ble_eq_true rfl, Nat.le_of_ble_eq_true rfl⟩) (hs_preV (hs_recv hK hB (hs_ck_i h14) (by decide) rfl) hV hB hS hA0 hA hem) rfl rfl hl.1 rfl (lv_room (Nat.le_of_ble_eq_true rfl)) dX8_flag_32 ⟨Nat.le_of_ble_eq_true rfl, Nat.le_of_ble_eq_true rfl⟩) hB hS hA rfl (fun H locs hB hS => ?_)
      refine lv_goto (tgt := 39) hx hb dX8_flag_35 (by decide) ?_
      obtain ⟨rfl, rfl⟩ := hs_ri hf
      exact hs_iret hx hb hr hlk hB hS dX8_flag_39
end SX8_flag
set_option maxRecDepth 100000 in
theorem ctX8_flag (l : Launch) (fu : Nat) (σ : hs_T) (o : Nat) (a1 : Int32) (a2 : Int32) (a3 : Int32) : hs_C0 hs_tvi l yX8_flag wsX8_flag rmX8_flag (fun ad => [.ref (ad o), .int a1, .int a2, .int a3]) σ (fX8_flag fu σ o a1 a2 a3) := by
  intro X ad sz r τ hf
  refine hs_enter (cc := cX8_flag) (maxL := 4) (ret := (some .int)) (by decide) rfl (Nat.le_of_ble_eq_true rfl) ?_
  intro p e s m below meth c ls C hl hem hB hS hsz
  exact wX8_flag_e fu C hem σ o a1 a2 a3 hf hB hS hl
/-! ServiceGameModel.handed(III)I -/
abbrev rmX8_handed : Room := { frames := 0, cells := 0, slots := 0, locals := 0 }
theorem inX8_handed_X8 : ∀ w ∈ wsX80, w ∈ wsX8_handed := fun _ h => List.mem_cons_of_mem _ (List.mem_append_right _ h)
theorem lkX8_handed_0 : Cond.fieldLink RX8 89 "ServiceGameModel" "handedIn" "[I" ∈ wsX8_handed := by decide +kernel
def fX8_handed (fu : Nat) (σ : hs_T) (o : Nat) (a1 : Int32) (a2 : Int32) (a3 : Int32) : Option (Int32 × hs_T) :=
 (hs_gN σ 10 o 37).bind fun n2 =>
 (hs_ld σ 11 n2 (((75 * a1) + (5 * a2)) + a3)).bind fun v3 =>
 some ((v3 - 1), σ)
section SX8_handed
variable {p : Program} {l : Launch} {e : Env} {s : State} {m : MethodId} {args : Array Value} {below : List Frame} {meth : Method} {c : Code} {X : hs_X} {ad : Nat → Nat} {A : Nat → Prop} {r : Int32} {τ : hs_T}
set_option maxRecDepth 100000 in
set_option maxHeartbeats 4000000 in
theorem wX8_handed_e (fu : Nat) (C : hs_Cx p s m args meth c X A yX8_handed cX8_handed 4 (some .int) wsX8_handed) (hem : ad hs_em = X.2.2.1.2.2.2) {H : Heap} {locs : List Loc} {ls : Array Slot} (σ : hs_T) (o : Nat) (a1 : Int32) (a2 : Int32) (a3 : Int32) (hf : fX8_handed fu σ o a1 a2 a3 = some (r, τ)) (hB : hs_H X.1 X.2.1 ad A σ H) (hS : va_S A s.heap H locs) (hl : lv_has ls 4 [(0, .ref (ad o)), (1, .int a1), (2, .int a2), (3, .int a3)]) : W p l e rmX8_handed s m args below meth c H locs 0 0 (MQ below (hs_Q0 hs_tvi X ad A r τ) args s 0 0 A) (F0 m 0 ls []) := by
  obtain ⟨hx, hb, hml, hr, hts, hown, hlk, hnm, hV, hA0, hA⟩ := id C
  have hown : s.vm.findClass RX8 = some m.cls := hown
  have hK := hV.1
  have hNw := hV.2.1
  unfold fX8_handed at hf
  refine lv_aload_n hx hb dX8_handed_0 rfl (lv_at hl 0 rfl) ?_
  obtain ⟨n2, h1, hf⟩ := hs_bi hf
  refine x_getN hx hb hts inX8_handed_X8 hown hK hB (by decide) rfl (k := 37) (by decide) rfl h1 (hts _ lkX8_handed_0) (fun _ h9 => h9) dX8_handed_1 ?_
  refine lv_bipush (v := 75) hx hb dX8_handed_4 (by decide) ?_
  refine lv_iload_n hx hb dX8_handed_6 rfl (lv_at hl 1 rfl) ?_
  refine lv_imul hx hb dX8_handed_7 ?_
  refine lv_iconst (v := 5) hx hb dX8_handed_8 (by decide) ?_
  refine lv_iload_n hx hb dX8_handed_9 rfl (lv_at hl 2 rfl) ?_
  refine lv_imul hx hb dX8_handed_10 ?_
  refine lv_iadd hx hb dX8_handed_11 ?_
  refine lv_iload_n hx hb dX8_handed_12 rfl (lv_at hl 3 rfl) ?_
  refine lv_iadd hx hb dX8_handed_13 ?_
  obtain ⟨v3, h4, hf⟩ := hs_bi hf
  refine x_iald hx hb hK hB h4 dX8_handed_14 ?_
  refine lv_iconst (v := 1) hx hb dX8_handed_15 (by decide) ?_
  refine lv_isub hx hb dX8_handed_16 ?_
  obtain ⟨rfl, rfl⟩ := hs_ri hf
  exact hs_iret hx hb hr hlk hB hS dX8_handed_17
end SX8_handed
set_option maxRecDepth 100000 in
theorem ctX8_handed (l : Launch) (fu : Nat) (σ : hs_T) (o : Nat) (a1 : Int32) (a2 : Int32) (a3 : Int32) : hs_C0 hs_tvi l yX8_handed wsX8_handed rmX8_handed (fun ad => [.ref (ad o), .int a1, .int a2, .int a3]) σ (fX8_handed fu σ o a1 a2 a3) := by
  intro X ad sz r τ hf
  refine hs_enter (cc := cX8_handed) (maxL := 4) (ret := (some .int)) (by decide) rfl (Nat.le_of_ble_eq_true rfl) ?_
  intro p e s m below meth c ls C hl hem hB hS hsz
  exact wX8_handed_e fu C hem σ o a1 a2 a3 hf hB hS hl
/-! ServiceGameModel.hand(IIII)I -/
abbrev rmX8_hand : Room := { frames := 2, cells := 0, slots := 0, locals := 47 }
theorem inX8_hand_X8 : ∀ w ∈ wsX80, w ∈ wsX8_hand := fun _ h => List.mem_cons_of_mem _ (List.mem_append_right _ h)
theorem lkX8_hand_0 : Cond.constantLong RX8 166 (9999) ∈ wsX8_hand := by decide +kernel
theorem lkX8_hand_1 : Cond.fieldLink RX8 118 "ServiceGameModel" "rounds" "I" ∈ wsX8_hand := by decide +kernel
theorem lkX8_hand_2 : Cond.fieldLink RX8 47 "ServiceGameModel" "set" "[I" ∈ wsX8_hand := by decide +kernel
theorem lkX8_hand_3 : Cond.fieldLink RX8 89 "ServiceGameModel" "handedIn" "[I" ∈ wsX8_hand := by decide +kernel
theorem lkX8_hand_4 : Cond.fieldLink RX8 228 "ServiceGameModel" "hands" "I" ∈ wsX8_hand := by decide +kernel
def fX8_hand_55b (fu : Nat)  (k55 : hs_T → Nat → Int32 → Int32 → Int32 → Int32 → Option (Int32 × hs_T)) (σ : hs_T) (x0 : Nat) (x1 : Int32) (x4 : Int32) (x5 : Int32) (x6 : Int32) : Option (Int32 × hs_T) :=
 if x6 < 0 then
 (some ((-3), σ))
 else
 ((hs_gI σ 10 x0 1).bind fun v20 =>
 (hs_gN σ 10 x0 17).bind fun n22 =>
 (hs_ld σ 11 n22 2).bind fun v23 =>
 if x6 < (v20 - v23) then
 (some ((-3), σ))
 else
 ((hs_ck σ 10 x0).bind fun _ =>
 hs_b2 (fX8_flagOf fu σ x0 x6 x5) fun v29 σ27 =>
 if v29 = x4 then
 ((hs_ck σ27 10 x0).bind fun _ =>
 hs_b2 (fX8_handed fu σ27 x0 x6 x5 x1) fun v34 σ32 =>
 if v34 < 0 then
 ((hs_gN σ32 10 x0 37).bind fun n37 =>
 (hs_gI σ32 10 x0 1).bind fun v39 =>
 (hs_st σ32 11 n37 (((75 * x6) + (5 * x5)) + x1) v39).bind fun σ40 =>
 (hs_gI σ40 10 x0 38).bind fun v43 =>
 (hs_pI σ40 10 x0 38 (v43 + 1)).bind fun σ45 =>
 some (x6, σ45))
 else
 (k55 σ32 x0 x1 x4 x5 (x6 + (-1))))
 else
 (k55 σ27 x0 x1 x4 x5 (x6 + (-1)))))
def fX8_hand_55 (fu : Nat)  (σ : hs_T) (x0 : Nat) (x1 : Int32) (x4 : Int32) (x5 : Int32) (x6 : Int32) : Option (Int32 × hs_T) :=
   hs_lp (fun (k : hs_T × Nat × Int32 × Int32 × Int32 × Int32 → Option (Int32 × hs_T)) (a : hs_T × Nat × Int32 × Int32 × Int32 × Int32) => fX8_hand_55b fu  (fun σ x0 x1 x4 x5 x6 => k (σ, x0, x1, x4, x5, x6)) a.1 a.2.1 a.2.2.1 a.2.2.2.1 a.2.2.2.2.1 a.2.2.2.2.2) fu (σ, x0, x1, x4, x5, x6)
def fX8_hand (fu : Nat) (σ : hs_T) (o : Nat) (a1 : Int32) (a2 : Int32) (a3 : Int32) (a4 : Int32) : Option (Int32 × hs_T) :=
 (hs_ck σ 10 o).bind fun _ =>
 hs_b2 (fX8_isTeam fu σ o a1) fun v4 σ2 =>
 if v4 = 0 then
 (some ((-1), σ2))
 else
 ((hs_ck σ2 10 o).bind fun _ =>
 hs_b2 (fX8_isPlace fu σ2 o a2 a3) fun v9 σ7 =>
 if v9 = 0 then
 (some ((-1), σ7))
 else
 (hs_b2 (fX8_isIn fu σ7 a4.toInt64 0 9999) fun v13 σ12 =>
 if v13 = 0 then
 (some ((-2), σ12))
 else
 (if a1 = a2 then
 (some ((-2), σ12))
 else
 ((hs_gI σ12 10 o 1).bind fun v17 =>
 fX8_hand_55 fu σ12 o a1 a4 ((3 * a2) + a3) (v17 - 1)))))
section SX8_hand
variable {p : Program} {l : Launch} {e : Env} {s : State} {m : MethodId} {args : Array Value} {below : List Frame} {meth : Method} {c : Code} {X : hs_X} {ad : Nat → Nat} {A : Nat → Prop} {r : Int32} {τ : hs_T}
set_option maxRecDepth 100000 in
set_option maxHeartbeats 4000000 in
theorem wX8_hand_55b (fu : Nat) (C : hs_Cx p s m args meth c X A yX8_hand cX8_hand 7 (some .int) wsX8_hand) (hem : ad hs_em = X.2.2.1.2.2.2)  (k55 : hs_T → Nat → Int32 → Int32 → Int32 → Int32 → Option (Int32 × hs_T)) (hk55 : ∀ (σ : hs_T) (x0 : Nat) (x1 : Int32) (x4 : Int32) (x5 : Int32) (x6 : Int32) (H : Heap) (locs : List Loc) (ls : Array Slot), k55 σ x0 x1 x4 x5 x6 = some (r, τ) → hs_H X.1 X.2.1 ad A σ H → va_S A s.heap H locs → lv_has ls 7 [(0, .ref (ad x0)), (1, .int x1), (4, .int x4), (5, .int x5), (6, .int x6)] → W p l e rmX8_hand s m args below meth c H locs 0 0 (MQ below (hs_Q0 hs_tvi X ad A r τ) args s 0 0 A) (F0 m 55 ls [])) {H : Heap} {locs : List Loc} {ls : Array Slot} (σ : hs_T) (x0 : Nat) (x1 : Int32) (x4 : Int32) (x5 : Int32) (x6 : Int32) (hf : fX8_hand_55b fu  k55 σ x0 x1 x4 x5 x6 = some (r, τ)) (hB : hs_H X.1 X.2.1 ad A σ H) (hS : va_S A s.heap H locs) (hl : lv_has ls 7 [(0, .ref (ad x0)), (1, .int x1), (4, .int x4), (5, .int x5), (6, .int x6)]) : W p l e rmX8_hand s m args below meth c H locs 0 0 (MQ below (hs_Q0 hs_tvi X ad A r τ) args s 0 0 A) (F0 m 55 ls []) := by
  obtain ⟨hx, hb, hml, hr, hts, hown, hlk, hnm, hV, hA0, hA⟩ := id C
  have hown : s.vm.findClass RX8 = some m.cls := hown
  have hK := hV.1
  have hNw := hV.2.1
  unfold fX8_hand_55b at hf
  refine lv_iload hx hb dX8_hand_55 (lv_at hl 4 rfl) ?_
  refine lv_if_lt (tgt := 144) hx hb dX8_hand_57 (by decide) (fun h18 => ?_) (fun h18 => ?_)
  · have hf := hs_tt h18 hf
    refine lv_bipush (v := (-3)) hx hb dX8_hand_144 (by decide) ?_
    obtain ⟨rfl, rfl⟩ := hs_ri hf
    exact hs_iret hx hb hr hlk hB hS dX8_hand_146
  · have hf := hs_ff h18 hf
    refine lv_iload hx hb dX8_hand_60 (lv_at hl 4 rfl) ?_
    refine lv_aload_n hx hb dX8_hand_62 rfl (lv_at hl 0 rfl) ?_
    obtain ⟨v20, h19, hf⟩ := hs_bi hf
    refine x_getI hx hb hts inX8_hand_X8 hown hK hB (by decide) rfl (k := 1) (by decide) rfl h19 (hts _ lkX8_hand_1) (fun _ h9 => h9) dX8_hand_63 ?_
    refine lv_aload_n hx hb dX8_hand_66 rfl (lv_at hl 0 rfl) ?_
    obtain ⟨n22, h21, hf⟩ := hs_bi hf
    refine x_getN hx hb hts inX8_hand_X8 hown hK hB (by decide) rfl (k := 17) (by decide) rfl h21 (hts _ lkX8_hand_2) (fun _ h9 => h9) dX8_hand_67 ?_
    refine lv_iconst (v := 2) hx hb dX8_hand_70 (by decide) ?_
    obtain ⟨v23, h24, hf⟩ := hs_bi hf
    refine x_iald hx hb hK hB h24 dX8_hand_71 ?_
    refine lv_isub hx hb dX8_hand_72 ?_
    refine lv_icmp_lt (tgt := 144) hx hb dX8_hand_73 (by decide) (fun h25 => ?_) (fun h25 => ?_)
    · have hf := hs_tt h25 hf
      refine lv_bipush (v := (-3)) hx hb dX8_hand_144 (by decide) ?_
      obtain ⟨rfl, rfl⟩ := hs_ri hf
      exact hs_iret hx hb hr hlk hB hS dX8_hand_146
    · have hf := hs_ff h25 hf
      refine lv_aload_n hx hb dX8_hand_76 rfl (lv_at hl 0 rfl) ?_
      refine lv_iload hx hb dX8_hand_77 (lv_at hl 4 rfl) ?_
      refine lv_iload hx hb dX8_hand_79 (lv_at hl 3 rfl) ?_
      obtain ⟨_, h28, hf⟩ := hs_bi hf
      obtain ⟨v29, σ27, h26, hf⟩ := hs_b2i hf
      refine hs_call0 (va_runV (As := [.int x6, .int x5]) (rest := []) ⟨hx, hb, hml, hown, hts⟩ (ctX8_flagOf l fu σ x0 x6 x5 X ad H.size _ _ h26) (cwV 2 hts gX8_hand_X8_flagOf rfl rfl rfl (by decide +kernel) ⟨Nat.le_of_ble_eq_true rfl, Nat.le_of_ble_eq_true rfl⟩) (hs_preV (hs_recv hK hB (hs_ck_i h28) (by decide) rfl) hV hB hS hA0 hA hem) rfl rfl hl.1 rfl (lv_room (Nat.le_of_ble_eq_true rfl)) dX8_hand_81 ⟨Nat.le_of_ble_eq_true rfl, Nat.le_of_ble_eq_true rfl⟩) hB hS hA rfl (fun H locs hB hS => ?_)
      refine lv_iload hx hb dX8_hand_84 (lv_at hl 2 rfl) ?_
      refine lv_icmp_ne (tgt := 138) hx hb dX8_hand_86 (by decide) (fun h30 => ?_) (fun h30 => ?_)
      · have hf := hs_ff h30 hf
        refine lv_iinc (v := (x6 + (-1))) (lv' := [(6, .int (x6 + (-1))), (0, .ref (ad x0)), (1, .int x1), (4, .int x4), (5, .int x5)]) hx hb dX8_hand_138 hl (k := 4) rfl rfl (by decide) rfl (fun ls hl => ?_)
        refine lv_goto (tgt := 55) hx hb dX8_hand_141 (by decide) ?_
        exact hk55 σ27 x0 x1 x4 x5 (x6 + (-1)) _ _ _ hf hB hS (lv_sub hl [1, 2, 3, 4, 0] rfl)
      · have hf := hs_tt h30 hf
        refine lv_aload_n hx hb dX8_hand_89 rfl (lv_at hl 0 rfl) ?_
        refine lv_iload hx hb dX8_hand_90 (lv_at hl 4 rfl) ?_
        refine lv_iload hx hb dX8_hand_92 (lv_at hl 3 rfl) ?_
        refine lv_iload_n hx hb dX8_hand_94 rfl (lv_at hl 1 rfl) ?_
        obtain ⟨_, h33, hf⟩ := hs_bi hf
        obtain ⟨v34, σ32, h31, hf⟩ := hs_b2i hf
        refine hs_call0 (va_runV (As := [.int x6, .int x5, .int x1]) (rest := []) ⟨hx, hb, hml, hown, hts⟩ (ctX8_handed l fu σ27 x0 x6 x5 x1 X ad H.size _ _ h31) (cwV 3 hts gX8_hand_X8_handed rfl rfl rfl (by decide +kernel) ⟨Nat.le_of_ble_eq_true rfl, Nat.le_of_ble_eq_true rfl⟩) (hs_preV (hs_recv hK hB (hs_ck_i h33) (by decide) rfl) hV hB hS hA0 hA hem) rfl rfl hl.1 rfl (lv_room (Nat.le_of_ble_eq_true rfl)) dX8_hand_95 ⟨Nat.le_of_ble_eq_true rfl, Nat.le_of_ble_eq_true rfl⟩) hB hS hA rfl (fun H locs hB hS => ?_)
        refine lv_if_lt (tgt := 104) hx hb dX8_hand_98 (by decide) (fun h35 => ?_) (fun h35 => ?_)
        · have hf := hs_tt h35 hf
          refine lv_aload_n hx hb dX8_hand_104 rfl (lv_at hl 0 rfl) ?_
          obtain ⟨n37, h36, hf⟩ := hs_bi hf
          refine x_getN hx hb hts inX8_hand_X8 hown hK hB (by decide) rfl (k := 37) (by decide) rfl h36 (hts _ lkX8_hand_3) (fun _ h9 => h9) dX8_hand_105 ?_
          refine lv_bipush (v := 75) hx hb dX8_hand_108 (by decide) ?_
          refine lv_iload hx hb dX8_hand_110 (lv_at hl 4 rfl) ?_
          refine lv_imul hx hb dX8_hand_112 ?_
          refine lv_iconst (v := 5) hx hb dX8_hand_113 (by decide) ?_
          refine lv_iload hx hb dX8_hand_114 (lv_at hl 3 rfl) ?_
          refine lv_imul hx hb dX8_hand_116 ?_
          refine lv_iadd hx hb dX8_hand_117 ?_
          refine lv_iload_n hx hb dX8_hand_118 rfl (lv_at hl 1 rfl) ?_
          refine lv_iadd hx hb dX8_hand_119 ?_
          refine lv_aload_n hx hb dX8_hand_120 rfl (lv_at hl 0 rfl) ?_
          obtain ⟨v39, h38, hf⟩ := hs_bi hf
          refine x_getI hx hb hts inX8_hand_X8 hown hK hB (by decide) rfl (k := 1) (by decide) rfl h38 (hts _ lkX8_hand_1) (fun _ h9 => h9) dX8_hand_121 ?_
          obtain ⟨σ40, h41, hf⟩ := hs_bi hf
          refine x_iast hx hb hK hB hS h41 dX8_hand_124 (fun H locs hB hS => ?_)
          refine lv_aload_n hx hb dX8_hand_125 rfl (lv_at hl 0 rfl) ?_
          refine lv_dup hx hb dX8_hand_126 rfl ?_
          obtain ⟨v43, h42, hf⟩ := hs_bi hf
          refine x_getI hx hb hts inX8_hand_X8 hown hK hB (by decide) rfl (k := 38) (by decide) rfl h42 (hts _ lkX8_hand_4) (fun _ h9 => h9) dX8_hand_127 ?_
          refine lv_iconst (v := 1) hx hb dX8_hand_130 (by decide) ?_
          refine lv_iadd hx hb dX8_hand_131 ?_
          obtain ⟨σ45, h44, hf⟩ := hs_bi hf
          refine x_putI hx hb hts inX8_hand_X8 tyX8_ok nmX8 hown hK hB hS (by decide) rfl (k := 38) (by decide) rfl h44 (hts _ lkX8_hand_4) (fun _ h9 => h9) rfl (by decide +kernel) dX8_hand_132 (fun H locs hB hS => ?_)
          refine lv_iload hx hb dX8_hand_135 (lv_at hl 4 rfl) ?_
          obtain ⟨rfl, rfl⟩ := hs_ri hf
          exact hs_iret hx hb hr hlk hB hS dX8_hand_137
        · have hf := hs_ff h35 hf
          refine lv_goto (tgt := 138) hx hb dX8_hand_101 (by decide) ?_
          refine lv_iinc (v := (x6 + (-1))) (lv' := [(6, .int (x6 + (-1))), (0, .ref (ad x0)), (1, .int x1), (4, .int x4), (5, .int x5)]) hx hb dX8_hand_138 hl (k := 4) rfl rfl (by decide) rfl (fun ls hl => ?_)
          refine lv_goto (tgt := 55) hx hb dX8_hand_141 (by decide) ?_
          exact hk55 σ32 x0 x1 x4 x5 (x6 + (-1)) _ _ _ hf hB hS (lv_sub hl [1, 2, 3, 4, 0] rfl)
set_option maxRecDepth 100000 in
set_option maxHeartbeats 4000000 in
theorem wX8_hand_55 (fu : Nat) (C : hs_Cx p s m args meth c X A yX8_hand cX8_hand 7 (some .int) wsX8_hand) (hem : ad hs_em = X.2.2.1.2.2.2)  {H : Heap} {locs : List Loc} {ls : Array Slot} (σ : hs_T) (x0 : Nat) (x1 : Int32) (x4 : Int32) (x5 : Int32) (x6 : Int32) (hf : fX8_hand_55 fu  σ x0 x1 x4 x5 x6 = some (r, τ)) (hB : hs_H X.1 X.2.1 ad A σ H) (hS : va_S A s.heap H locs) (hl : lv_has ls 7 [(0, .ref (ad x0)), (1, .int x1), (4, .int x4), (5, .int x5), (6, .int x6)]) : W p l e rmX8_hand s m args below meth c H locs 0 0 (MQ below (hs_Q0 hs_tvi X ad A r τ) args s 0 0 A) (F0 m 55 ls []) := by
  unfold fX8_hand_55 at hf
  exact hs_lp_i (P := fun a => ∀ (H : Heap) (locs : List Loc) (ls : Array Slot), hs_H X.1 X.2.1 ad A a.1 H → va_S A s.heap H locs → lv_has ls 7 [(0, .ref (ad a.2.1)), (1, .int a.2.2.1), (4, .int a.2.2.2.1), (5, .int a.2.2.2.2.1), (6, .int a.2.2.2.2.2)] → W p l e rmX8_hand s m args below meth c H locs 0 0 (MQ below (hs_Q0 hs_tvi X ad A r τ) args s 0 0 A) (F0 m 55 ls [])) (fun k a hk hf H locs ls hB hS hl => wX8_hand_55b fu C hem  _ (fun σ x0 x1 x4 x5 x6 H locs ls hf hB hS hl => hk (σ, x0, x1, x4, x5, x6) hf H locs ls hB hS hl) a.1 a.2.1 a.2.2.1 a.2.2.2.1 a.2.2.2.2.1 a.2.2.2.2.2 hf hB hS hl) fu (σ, x0, x1, x4, x5, x6) hf H locs ls hB hS hl
set_option maxRecDepth 100000 in
set_option maxHeartbeats 4000000 in
theorem wX8_hand_e (fu : Nat) (C : hs_Cx p s m args meth c X A yX8_hand cX8_hand 7 (some .int) wsX8_hand) (hem : ad hs_em = X.2.2.1.2.2.2) {H : Heap} {locs : List Loc} {ls : Array Slot} (σ : hs_T) (o : Nat) (a1 : Int32) (a2 : Int32) (a3 : Int32) (a4 : Int32) (hf : fX8_hand fu σ o a1 a2 a3 a4 = some (r, τ)) (hB : hs_H X.1 X.2.1 ad A σ H) (hS : va_S A s.heap H locs) (hl : lv_has ls 7 [(0, .ref (ad o)), (1, .int a1), (2, .int a2), (3, .int a3), (4, .int a4)]) : W p l e rmX8_hand s m args below meth c H locs 0 0 (MQ below (hs_Q0 hs_tvi X ad A r τ) args s 0 0 A) (F0 m 0 ls []) := by
  obtain ⟨hx, hb, hml, hr, hts, hown, hlk, hnm, hV, hA0, hA⟩ := id C
  have hown : s.vm.findClass RX8 = some m.cls := hown
  have hK := hV.1
  have hNw := hV.2.1
  unfold fX8_hand at hf
  refine lv_aload_n hx hb dX8_hand_0 rfl (lv_at hl 0 rfl) ?_
  refine lv_iload_n hx hb dX8_hand_1 rfl (lv_at hl 1 rfl) ?_
  obtain ⟨_, h3, hf⟩ := hs_bi hf
  obtain ⟨v4, σ2, h1, hf⟩ := hs_b2i hf
  refine hs_call0 (va_runV (As := [.int a1]) (rest := []) ⟨hx, hb, hml, hown, hts⟩ (ctX8_isTeam l fu σ o a1 X ad H.size _ _ h1) (cwV 1 hts gX8_hand_X8_isTeam rfl rfl rfl (by decide +kernel) ⟨Nat.le_of_ble_eq_true rfl, Nat.le_of_ble_eq_true rfl⟩) (hs_preV (hs_recv hK hB (hs_ck_i h3) (by decide) rfl) hV hB hS hA0 hA hem) rfl rfl hl.1 rfl (lv_room (Nat.le_of_ble_eq_true rfl)) dX8_hand_2 ⟨Nat.le_of_ble_eq_true rfl, Nat.le_of_ble_eq_true rfl⟩) hB hS hA rfl (fun H locs hB hS => ?_)
  refine lv_if_eq (tgt := 17) hx hb dX8_hand_5 (by decide) (fun h5 => ?_) (fun h5 => ?_)
  · have hf := hs_tt h5 hf
    refine lv_iconst (v := (-1)) hx hb dX8_hand_17 (by decide) ?_
    obtain ⟨rfl, rfl⟩ := hs_ri hf
    exact hs_iret hx hb hr hlk hB hS dX8_hand_18
  · have hf := hs_ff h5 hf
    refine lv_aload_n hx hb dX8_hand_8 rfl (lv_at hl 0 rfl) ?_
    refine lv_iload_n hx hb dX8_hand_9 rfl (lv_at hl 2 rfl) ?_
    refine lv_iload_n hx hb dX8_hand_10 rfl (lv_at hl 3 rfl) ?_
    obtain ⟨_, h8, hf⟩ := hs_bi hf
    obtain ⟨v9, σ7, h6, hf⟩ := hs_b2i hf
    refine hs_call0 (va_runV (As := [.int a2, .int a3]) (rest := []) ⟨hx, hb, hml, hown, hts⟩ (ctX8_isPlace l fu σ2 o a2 a3 X ad H.size _ _ h6) (cwV 2 hts gX8_hand_X8_isPlace rfl rfl rfl (by decide +kernel) ⟨Nat.le_of_ble_eq_true rfl, Nat.le_of_ble_eq_true rfl⟩) (hs_preV (hs_recv hK hB (hs_ck_i h8) (by decide) rfl) hV hB hS hA0 hA hem) rfl rfl hl.1 rfl (lv_room (Nat.le_of_ble_eq_true rfl)) dX8_hand_11 ⟨Nat.le_of_ble_eq_true rfl, Nat.le_of_ble_eq_true rfl⟩) hB hS hA rfl (fun H locs hB hS => ?_)
    refine lv_if_ne (tgt := 19) hx hb dX8_hand_14 (by decide) (fun h10 => ?_) (fun h10 => ?_)
    · have hf := hs_ff h10 hf
      refine lv_iload hx hb dX8_hand_19 (lv_at hl 4 rfl) ?_
      refine lv_i2l hx hb dX8_hand_21 rfl ?_
      refine lv_lconst (v := 0) hx hb dX8_hand_22 (by decide) ?_
      refine lv_ldc2 hx hb hown (hts _ lkX8_hand_0) dX8_hand_23 ?_
      obtain ⟨v13, σ12, h11, hf⟩ := hs_b2i hf
      refine hs_call0 (va_runS (As := [.long a4.toInt64, .long 0, .long 9999]) (rest := []) ⟨hx, hb, hml, hown, hts⟩ (ctX8_isIn l fu σ7 a4.toInt64 0 9999 X ad H.size _ _ h11) (va_cwS 3 hts gX8_hand_X8_isIn rfl rfl rfl (by decide +kernel) ⟨Nat.le_of_ble_eq_true rfl, Nat.le_of_ble_eq_true rfl⟩) (hs_pre hV hB hS hA0 hA hem) rfl rfl hl.1 rfl (lv_room (Nat.le_of_ble_eq_true rfl)) dX8_hand_26 ⟨Nat.le_of_ble_eq_true rfl, Nat.le_of_ble_eq_true rfl⟩) hB hS hA rfl (fun H locs hB hS => ?_)
      refine lv_if_eq (tgt := 37) hx hb dX8_hand_29 (by decide) (fun h14 => ?_) (fun h14 => ?_)
      · have hf := hs_tt h14 hf
        refine lv_bipush (v := (-2)) hx hb dX8_hand_37 (by decide) ?_
        obtain ⟨rfl, rfl⟩ := hs_ri hf
        exact hs_iret hx hb hr hlk hB hS dX8_hand_39
      · have hf := hs_ff h14 hf
        refine lv_iload_n hx hb dX8_hand_32 rfl (lv_at hl 1 rfl) ?_
        refine lv_iload_n hx hb dX8_hand_33 rfl (lv_at hl 2 rfl) ?_
        refine lv_icmp_ne (tgt := 40) hx hb dX8_hand_34 (by decide) (fun h15 => ?_) (fun h15 => ?_)
        · have hf := hs_ff h15 hf
          refine lv_iconst (v := 3) hx hb dX8_hand_40 (by decide) ?_
          refine lv_iload_n hx hb dX8_hand_41 rfl (lv_at hl 2 rfl) ?_
          refine lv_imul hx hb dX8_hand_42 ?_
          refine lv_iload_n hx hb dX8_hand_43 rfl (lv_at hl 3 rfl) ?_
          refine lv_iadd hx hb dX8_hand_44 ?_
          refine lv_istore (lv' := [(5, .int ((3 * a2) + a3)), (0, .ref (ad o)), (1, .int a1), (2, .int a2), (3, .int a3), (4, .int a4)]) hx hb dX8_hand_45 hl (by decide) rfl (fun ls hl => ?_)
          refine lv_aload_n hx hb dX8_hand_47 rfl (lv_at hl 1 rfl) ?_
          obtain ⟨v17, h16, hf⟩ := hs_bi hf
          refine x_getI hx hb hts inX8_hand_X8 hown hK hB (by decide) rfl (k := 1) (by decide) rfl h16 (hts _ lkX8_hand_1) (fun _ h9 => h9) dX8_hand_48 ?_
          refine lv_iconst (v := 1) hx hb dX8_hand_51 (by decide) ?_
          refine lv_isub hx hb dX8_hand_52 ?_
          refine lv_istore (lv' := [(6, .int (v17 - 1)), (5, .int ((3 * a2) + a3)), (0, .ref (ad o)), (1, .int a1), (2, .int a2), (3, .int a3), (4, .int a4)]) hx hb dX8_hand_53 hl (by decide) rfl (fun ls hl => ?_)
          exact wX8_hand_55 fu C hem σ12 o a1 a4 ((3 * a2) + a3) (v17 - 1) hf hB hS (lv_sub hl [2, 3, 6, 1, 0] rfl)
        · have hf := hs_tt h15 hf
          refine lv_bipush (v := (-2)) hx hb dX8_hand_37 (by decide) ?_
          obtain ⟨rfl, rfl⟩ := hs_ri hf
          exact hs_iret hx hb hr hlk hB hS dX8_hand_39
    · have hf := hs_tt h10 hf
      refine lv_iconst (v := (-1)) hx hb dX8_hand_17 (by decide) ?_
      obtain ⟨rfl, rfl⟩ := hs_ri hf
      exact hs_iret hx hb hr hlk hB hS dX8_hand_18
end SX8_hand
set_option maxRecDepth 100000 in
theorem ctX8_hand (l : Launch) (fu : Nat) (σ : hs_T) (o : Nat) (a1 : Int32) (a2 : Int32) (a3 : Int32) (a4 : Int32) : hs_C0 hs_tvi l yX8_hand wsX8_hand rmX8_hand (fun ad => [.ref (ad o), .int a1, .int a2, .int a3, .int a4]) σ (fX8_hand fu σ o a1 a2 a3 a4) := by
  intro X ad sz r τ hf
  refine hs_enter (cc := cX8_hand) (maxL := 7) (ret := (some .int)) (by decide) rfl (Nat.le_of_ble_eq_true rfl) ?_
  intro p e s m below meth c ls C hl hem hB hS hsz
  exact wX8_hand_e fu C hem σ o a1 a2 a3 a4 hf hB hS hl
