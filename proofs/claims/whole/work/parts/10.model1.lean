/-! ServiceGameModel.isTeam(I)Z -/
abbrev rmX8_isTeam : Room := { frames := 0, cells := 0, slots := 0, locals := 0 }
theorem inX8_isTeam_X8 : ∀ w ∈ wsX80, w ∈ wsX8_isTeam := fun _ h => List.mem_cons_of_mem _ (List.mem_append_right _ h)
theorem lkX8_isTeam_0 : Cond.fieldLink RX8 104 "ServiceGameModel" "teams" "I" ∈ wsX8_isTeam := by decide +kernel
def fX8_isTeam (fu : Nat) (σ : hs_T) (o : Nat) (a1 : Int32) : Option (Int32 × hs_T) :=
 if a1 < 0 then
 (some (0, σ))
 else
 ((hs_gI σ 10 o 0).bind fun v3 =>
 if v3 ≤ a1 then
 (some (0, σ))
 else
 (some (1, σ)))
section SX8_isTeam
variable {p : Program} {l : Launch} {e : Env} {s : State} {m : MethodId} {args : Array Value} {below : List Frame} {meth : Method} {c : Code} {X : hs_X} {ad : Nat → Nat} {A : Nat → Prop} {r : Int32} {τ : hs_T}
set_option maxRecDepth 100000 in
set_option maxHeartbeats 4000000 in
theorem wX8_isTeam_e (fu : Nat) (C : hs_Cx p s m args meth c X A yX8_isTeam cX8_isTeam 2 (some .boolean) wsX8_isTeam) (hem : ad hs_em = X.2.2.1.2.2.2) {H : Heap} {locs : List Loc} {ls : Array Slot} (σ : hs_T) (o : Nat) (a1 : Int32) (hf : fX8_isTeam fu σ o a1 = some (r, τ)) (hB : hs_H X.1 X.2.1 ad A σ H) (hS : va_S A s.heap H locs) (hl : lv_has ls 2 [(0, .ref (ad o)), (1, .int a1)]) : W p l e rmX8_isTeam s m args below meth c H locs 0 0 (MQ below (hs_Q0 hs_tvi X ad A r τ) args s 0 0 A) (F0 m 0 ls []) := by
  obtain ⟨hx, hb, hml, hr, hts, hown, hlk, hnm, hV, hA0, hA⟩ := id C
  have hown : s.vm.findClass RX8 = some m.cls := hown
  have hK := hV.1
  have hNw := hV.2.1
  unfold fX8_isTeam at hf
  refine lv_iload_n hx hb dX8_isTeam_0 rfl (lv_at hl 1 rfl) ?_
  refine lv_if_lt (tgt := 16) hx hb dX8_isTeam_1 (by decide) (fun h1 => ?_) (fun h1 => ?_)
  · have hf := hs_tt h1 hf
    refine lv_iconst (v := 0) hx hb dX8_isTeam_16 (by decide) ?_
    obtain ⟨rfl, rfl⟩ := hs_ri hf
    exact hs_zret hx hb hr hlk (by decide) hB hS dX8_isTeam_17
  · have hf := hs_ff h1 hf
    refine lv_iload_n hx hb dX8_isTeam_4 rfl (lv_at hl 1 rfl) ?_
    refine lv_aload_n hx hb dX8_isTeam_5 rfl (lv_at hl 0 rfl) ?_
    obtain ⟨v3, h2, hf⟩ := hs_bi hf
    refine x_getI hx hb hts inX8_isTeam_X8 hown hK hB (by decide) rfl (k := 0) (by decide) rfl h2 (hts _ lkX8_isTeam_0) (fun _ h9 => h9) dX8_isTeam_6 ?_
    refine lv_icmp_ge (tgt := 16) hx hb dX8_isTeam_9 (by decide) (fun h4 => ?_) (fun h4 => ?_)
    · have hf := hs_tt h4 hf
      refine lv_iconst (v := 0) hx hb dX8_isTeam_16 (by decide) ?_
      obtain ⟨rfl, rfl⟩ := hs_ri hf
      exact hs_zret hx hb hr hlk (by decide) hB hS dX8_isTeam_17
    · have hf := hs_ff h4 hf
      refine lv_iconst (v := 1) hx hb dX8_isTeam_12 (by decide) ?_
      refine lv_goto (tgt := 17) hx hb dX8_isTeam_13 (by decide) ?_
      obtain ⟨rfl, rfl⟩ := hs_ri hf
      exact hs_zret hx hb hr hlk (by decide) hB hS dX8_isTeam_17
end SX8_isTeam
set_option maxRecDepth 100000 in
theorem ctX8_isTeam (l : Launch) (fu : Nat) (σ : hs_T) (o : Nat) (a1 : Int32) : hs_C0 hs_tvi l yX8_isTeam wsX8_isTeam rmX8_isTeam (fun ad => [.ref (ad o), .int a1]) σ (fX8_isTeam fu σ o a1) := by
  intro X ad sz r τ hf
  refine hs_enter (cc := cX8_isTeam) (maxL := 2) (ret := (some .boolean)) (by decide) rfl (Nat.le_of_ble_eq_true rfl) ?_
  intro p e s m below meth c ls C hl hem hB hS hsz
  exact wX8_isTeam_e fu C hem σ o a1 hf hB hS hl
/-! ServiceGameModel.isIn(JJJ)Z -/
abbrev rmX8_isIn : Room := { frames := 0, cells := 0, slots := 0, locals := 0 }
def fX8_isIn (fu : Nat) (σ : hs_T) (a1 : Int64) (a2 : Int64) (a3 : Int64) : Option (Int32 × hs_T) :=
 if (lg_cmp a1 a2) < 0 then
 (some (0, σ))
 else
 (if 0 < (lg_cmp a1 a3) then
 (some (0, σ))
 else
 (some (1, σ)))
section SX8_isIn
variable {p : Program} {l : Launch} {e : Env} {s : State} {m : MethodId} {args : Array Value} {below : List Frame} {meth : Method} {c : Code} {X : hs_X} {ad : Nat → Nat} {A : Nat → Prop} {r : Int32} {τ : hs_T}
set_option maxRecDepth 100000 in
set_option maxHeartbeats 4000000 in
theorem wX8_isIn_e (fu : Nat) (C : hs_Cx p s m args meth c X A yX8_isIn cX8_isIn 6 (some .boolean) wsX8_isIn) (hem : ad hs_em = X.2.2.1.2.2.2) {H : Heap} {locs : List Loc} {ls : Array Slot} (σ : hs_T) (a1 : Int64) (a2 : Int64) (a3 : Int64) (hf : fX8_isIn fu σ a1 a2 a3 = some (r, τ)) (hB : hs_H X.1 X.2.1 ad A σ H) (hS : va_S A s.heap H locs) (hl : lv_has ls 6 [(0, .long a1), (2, .long a2), (4, .long a3)]) : W p l e rmX8_isIn s m args below meth c H locs 0 0 (MQ below (hs_Q0 hs_tvi X ad A r τ) args s 0 0 A) (F0 m 0 ls []) := by
  obtain ⟨hx, hb, hml, hr, hts, hown, hlk, hnm, hV, hA0, hA⟩ := id C
  have hown : s.vm.findClass RX8 = some m.cls := hown
  have hK := hV.1
  have hNw := hV.2.1
  unfold fX8_isIn at hf
  refine lv_lload_n hx hb dX8_isIn_0 rfl (lv_at hl 0 rfl) ?_
  refine lv_lload_n hx hb dX8_isIn_1 rfl (lv_at hl 1 rfl) ?_
  refine W.lcmp hx hb dX8_isIn_2 ?_
  refine lv_if_lt (tgt := 17) hx hb dX8_isIn_3 (by decide) (fun h1 => ?_) (fun h1 => ?_)
  · have hf := hs_tt h1 hf
    refine lv_iconst (v := 0) hx hb dX8_isIn_17 (by decide) ?_
    obtain ⟨rfl, rfl⟩ := hs_ri hf
    exact hs_zret hx hb hr hlk (by decide) hB hS dX8_isIn_18
  · have hf := hs_ff h1 hf
    refine lv_lload_n hx hb dX8_isIn_6 rfl (lv_at hl 0 rfl) ?_
    refine lv_lload hx hb dX8_isIn_7 (lv_at hl 2 rfl) ?_
    refine W.lcmp hx hb dX8_isIn_9 ?_
    refine lv_if_gt (tgt := 17) hx hb dX8_isIn_10 (by decide) (fun h2 => ?_) (fun h2 => ?_)
    · have hf := hs_tt h2 hf
      refine lv_iconst (v := 0) hx hb dX8_isIn_17 (by decide) ?_
      obtain ⟨rfl, rfl⟩ := hs_ri hf
      exact hs_zret hx hb hr hlk (by decide) hB hS dX8_isIn_18
    · have hf := hs_ff h2 hf
      refine lv_iconst (v := 1) hx hb dX8_isIn_13 (by decide) ?_
      refine lv_goto (tgt := 18) hx hb dX8_isIn_14 (by decide) ?_
      obtain ⟨rfl, rfl⟩ := hs_ri hf
      exact hs_zret hx hb hr hlk (by decide) hB hS dX8_isIn_18
end SX8_isIn
set_option maxRecDepth 100000 in
theorem ctX8_isIn (l : Launch) (fu : Nat) (σ : hs_T) (a1 : Int64) (a2 : Int64) (a3 : Int64) : hs_C0 hs_tvi l yX8_isIn wsX8_isIn rmX8_isIn (fun ad => [.long a1, .long a2, .long a3]) σ (fX8_isIn fu σ a1 a2 a3) := by
  intro X ad sz r τ hf
  refine hs_enter (cc := cX8_isIn) (maxL := 6) (ret := (some .boolean)) (by decide) rfl (Nat.le_of_ble_eq_true rfl) ?_
  intro p e s m below meth c ls C hl hem hB hS hsz
  exact wX8_isIn_e fu C hem σ a1 a2 a3 hf hB hS hl
/-! ServiceGameModel.isPlace(II)Z -/
abbrev rmX8_isPlace : Room := { frames := 1, cells := 0, slots := 0, locals := 25 }
theorem lkX8_isPlace_0 : Cond.constantLong RX8 112 (2) ∈ wsX8_isPlace := by decide +kernel
def fX8_isPlace (fu : Nat) (σ : hs_T) (o : Nat) (a1 : Int32) (a2 : Int32) : Option (Int32 × hs_T) :=
 (hs_ck σ 10 o).bind fun _ =>
 hs_b2 (fX8_isTeam fu σ o a1) fun v4 σ2 =>
 if v4 = 0 then
 (some (0, σ2))
 else
 (hs_b2 (fX8_isIn fu σ2 a2.toInt64 0 2) fun v8 σ7 =>
 if v8 = 0 then
 (some (0, σ7))
 else
 (some (1, σ7)))
section SX8_isPlace
variable {p : Program} {l : Launch} {e : Env} {s : State} {m : MethodId} {args : Array Value} {below : List Frame} {meth : Method} {c : Code} {X : hs_X} {ad : Nat → Nat} {A : Nat → Prop} {r : Int32} {τ : hs_T}
set_option maxRecDepth 100000 in
set_option maxHeartbeats 4000000 in
theorem wX8_isPlace_e (fu : Nat) (C : hs_Cx p s m args meth c X A yX8_isPlace cX8_isPlace 3 (some .boolean) wsX8_isPlace) (hem : ad hs_em = X.2.2.1.2.2.2) {H : Heap} {locs : List Loc} {ls : Array Slot} (σ : hs_T) (o : Nat) (a1 : Int32) (a2 : Int32) (hf : fX8_isPlace fu σ o a1 a2 = some (r, τ)) (hB : hs_H X.1 X.2.1 ad A σ H) (hS : va_S A s.heap H locs) (hl : lv_has ls 3 [(0, .ref (ad o)), (1, .int a1), (2, .int a2)]) : W p l e rmX8_isPlace s m args below meth c H locs 0 0 (MQ below (hs_Q0 hs_tvi X ad A r τ) args s 0 0 A) (F0 m 0 ls []) := by
  obtain ⟨hx, hb, hml, hr, hts, hown, hlk, hnm, hV, hA0, hA⟩ := id C
  have hown : s.vm.findClass RX8 = some m.cls := hown
  have hK := hV.1
  have hNw := hV.2.1
  unfold fX8_isPlace at hf
  refine lv_aload_n hx hb dX8_isPlace_0 rfl (lv_at hl 0 rfl) ?_
  refine lv_iload_n hx hb dX8_isPlace_1 rfl (lv_at hl 1 rfl) ?_
  obtain ⟨_, h3, hf⟩ := hs_bi hf
  obtain ⟨v4, σ2, h1, hf⟩ := hs_b2i hf
  refine hs_call0 (va_runV (As := [.int a1]) (rest := []) ⟨hx, hb, hml, hown, hts⟩ (ctX8_isTeam l fu σ o a1 X ad H.size _ _ h1) (cwV 1 hts gX8_isPlace_X8_isTeam rfl rfl rfl (by decide +kernel) ⟨Nat.le_of_ble_eq_true rfl, Nat.le_of_ble_eq_true rfl⟩) (hs_preV (hs_recv hK hB (hs_ck_i h3) (by decide) rfl) hV hB hS hA0 hA hem) rfl rfl hl.1 rfl (lv_room (Nat.le_of_ble_eq_true rfl)) dX8_isPlace_2 ⟨Nat.le_of_ble_eq_true rfl, Nat.le_of_ble_eq_true rfl⟩) hB hS hA rfl (fun H locs hB hS => ?_)
  refine lv_if_eq (tgt := 24) hx hb dX8_isPlace_5 (by decide) (fun h5 => ?_) (fun h5 => ?_)
  · have hf := hs_tt h5 hf
    refine lv_iconst (v := 0) hx hb dX8_isPlace_24 (by decide) ?_
    obtain ⟨rfl, rfl⟩ := hs_ri hf
    exact hs_zret hx hb hr hlk (by decide) hB hS dX8_isPlace_25
  · have hf := hs_ff h5 hf
    refine lv_iload_n hx hb dX8_isPlace_8 rfl (lv_at hl 2 rfl) ?_
    refine lv_i2l hx hb dX8_isPlace_9 rfl ?_
    refine lv_lconst (v := 0) hx hb dX8_isPlace_10 (by decide) ?_
    refine lv_ldc2 hx hb hown (hts _ lkX8_isPlace_0) dX8_isPlace_11 ?_
    obtain ⟨v8, σ7, h6, hf⟩ := hs_b2i hf
    refine hs_call0 (va_runS (As := [.long a2.toInt64, .long 0, .long 2]) (rest := []) ⟨hx, hb, hml, hown, hts⟩ (ctX8_isIn l fu σ2 a2.toInt64 0 2 X ad H.size _ _ h6) (va_cwS 3 hts gX8_isPlace_X8_isIn rfl rfl rfl (by decide +kernel) ⟨Nat.le_of_ble_eq_true rfl, Nat.le_of_ble_eq_true rfl⟩) (hs_pre hV hB hS hA0 hA hem) rfl rfl hl.1 rfl (lv_room (Nat.le_of_ble_eq_true rfl)) dX8_isPlace_14 ⟨Nat.le_of_ble_eq_true rfl, Nat.le_of_ble_eq_true rfl⟩) hB hS hA rfl (fun H locs hB hS => ?_)
    refine lv_if_eq (tgt := 24) hx hb dX8_isPlace_17 (by decide) (fun h9 => ?_) (fun h9 => ?_)
    · have hf := hs_tt h9 hf
      refine lv_iconst (v := 0) hx hb dX8_isPlace_24 (by decide) ?_
      obtain ⟨rfl, rfl⟩ := hs_ri hf
      exact hs_zret hx hb hr hlk (by decide) hB hS dX8_isPlace_25
    · have hf := hs_ff h9 hf
      refine lv_iconst (v := 1) hx hb dX8_isPlace_20 (by decide) ?_
      refine lv_goto (tgt := 25) hx hb dX8_isPlace_21 (by decide) ?_
      obtain ⟨rfl, rfl⟩ := hs_ri hf
      exact hs_zret hx hb hr hlk (by decide) hB hS dX8_isPlace_25
end SX8_isPlace
set_option maxRecDepth 100000 in
theorem ctX8_isPlace (l : Launch) (fu : Nat) (σ : hs_T) (o : Nat) (a1 : Int32) (a2 : Int32) : hs_C0 hs_tvi l yX8_isPlace wsX8_isPlace rmX8_isPlace (fun ad => [.ref (ad o), .int a1, .int a2]) σ (fX8_isPlace fu σ o a1 a2) := by
  intro X ad sz r τ hf
  refine hs_enter (cc := cX8_isPlace) (maxL := 3) (ret := (some .boolean)) (by decide) rfl (Nat.le_of_ble_eq_true rfl) ?_
  intro p e s m below meth c ls C hl hem hB hS hsz
  exact wX8_isPlace_e fu C hem σ o a1 a2 hf hB hS hl
/-! ServiceGameModel.team()I -/
abbrev rmX8_team : Room := { frames := 0, cells := 0, slots := 0, locals := 0 }
theorem inX8_team_X8 : ∀ w ∈ wsX80, w ∈ wsX8_team := fun _ h => List.mem_cons_of_mem _ (List.mem_append_right _ h)
theorem lkX8_team_0 : Cond.fieldLink RX8 118 "ServiceGameModel" "rounds" "I" ∈ wsX8_team := by decide +kernel
theorem lkX8_team_1 : Cond.fieldLink RX8 104 "ServiceGameModel" "teams" "I" ∈ wsX8_team := by decide +kernel
def fX8_team (fu : Nat) (σ : hs_T) (o : Nat) : Option (Int32 × hs_T) :=
 (hs_gI σ 10 o 1).bind fun v2 =>
 if v2 ≤ 0 then
 ((hs_gI σ 10 o 0).bind fun v5 =>
 if v5 = 5 then
 (some ((-4), σ))
 else
 ((hs_gI σ 10 o 0).bind fun v8 =>
 (hs_pI σ 10 o 0 (v8 + 1)).bind fun σ10 =>
 (hs_gI σ10 10 o 0).bind fun v12 =>
 some ((v12 - 1), σ10)))
 else
 (some ((-3), σ))
section SX8_team
variable {p : Program} {l : Launch} {e : Env} {s : State} {m : MethodId} {args : Array Value} {below : List Frame} {meth : Method} {c : Code} {X : hs_X} {ad : Nat → Nat} {A : Nat → Prop} {r : Int32} {τ : hs_T}
set_option maxRecDepth 100000 in
set_option maxHeartbeats 4000000 in
theorem wX8_team_e (fu : Nat) (C : hs_Cx p s m args meth c X A yX8_team cX8_team 1 (some .int) wsX8_team) (hem : ad hs_em = X.2.2.1.2.2.2) {H : Heap} {locs : List Loc} {ls : Array Slot} (σ : hs_T) (o : Nat) (hf : fX8_team fu σ o = some (r, τ)) (hB : hs_H X.1 X.2.1 ad A σ H) (hS : va_S A s.heap H locs) (hl : lv_has ls 1 [(0, .ref (ad o))]) : W p l e rmX8_team s m args below meth c H locs 0 0 (MQ below (hs_Q0 hs_tvi X ad A r τ) args s 0 0 A) (F0 m 0 ls []) := by
  obtain ⟨hx, hb, hml, hr, hts, hown, hlk, hnm, hV, hA0, hA⟩ := id C
  have hown : s.vm.findClass RX8 = some m.cls := hown
  have hK := hV.1
  have hNw := hV.2.1
  unfold fX8_team at hf
  refine lv_aload_n hx hb dX8_team_0 rfl (lv_at hl 0 rfl) ?_
  obtain ⟨v2, h1, hf⟩ := hs_bi hf
  refine x_getI hx hb hts inX8_team_X8 hown hK hB (by decide) rfl (k := 1) (by decide) rfl h1 (hts _ lkX8_team_0) (fun _ h9 => h9) dX8_team_1 ?_
  refine lv_if_le (tgt := 10) hx hb dX8_team_4 (by decide) (fun h3 => ?_) (fun h3 => ?_)
  · have hf := hs_tt h3 hf
    refine lv_aload_n hx hb dX8_team_10 rfl (lv_at hl 0 rfl) ?_
    obtain ⟨v5, h4, hf⟩ := hs_bi hf
    refine x_getI hx hb hts inX8_team_X8 hown hK hB (by decide) rfl (k := 0) (by decide) rfl h4 (hts _ lkX8_team_1) (fun _ h9 => h9) dX8_team_11 ?_
    refine lv_iconst (v := 5) hx hb dX8_team_14 (by decide) ?_
    refine lv_icmp_ne (tgt := 21) hx hb dX8_team_15 (by decide) (fun h6 => ?_) (fun h6 => ?_)
    · have hf := hs_ff h6 hf
      refine lv_aload_n hx hb dX8_team_21 rfl (lv_at hl 0 rfl) ?_
      refine lv_dup hx hb dX8_team_22 rfl ?_
      obtain ⟨v8, h7, hf⟩ := hs_bi hf
      refine x_getI hx hb hts inX8_team_X8 hown hK hB (by decide) rfl (k := 0) (by decide) rfl h7 (hts _ lkX8_team_1) (fun _ h9 => h9) dX8_team_23 ?_
      refine lv_iconst (v := 1) hx hb dX8_team_26 (by decide) ?_
      refine lv_iadd hx hb dX8_team_27 ?_
      obtain ⟨σ10, h9, hf⟩ := hs_bi hf
      refine x_putI hx hb hts inX8_team_X8 tyX8_ok nmX8 hown hK hB hS (by decide) rfl (k := 0) (by decide) rfl h9 (hts _ lkX8_team_1) (fun _ h9 => h9) rfl (by decide +kernel) dX8_team_28 (fun H locs hB hS => ?_)
      refine lv_aload_n hx hb dX8_team_31 rfl (lv_at hl 0 rfl) ?_
      obtain ⟨v12, h11, hf⟩ := hs_bi hf
      refine x_getI hx hb hts inX8_team_X8 hown hK hB (by decide) rfl (k := 0) (by decide) rfl h11 (hts _ lkX8_team_1) (fun _ h9 => h9) dX8_team_32 ?_
      refine lv_iconst (v := 1) hx hb dX8_team_35 (by decide) ?_
      refine lv_isub hx hb dX8_team_36 ?_
      obtain ⟨rfl, rfl⟩ := hs_ri hf
      exact hs_iret hx hb hr hlk hB hS dX8_team_37
    · have hf := hs_tt h6 hf
      refine lv_bipush (v := (-4)) hx hb dX8_team_18 (by decide) ?_
      obtain ⟨rfl, rfl⟩ := hs_ri hf
      exact hs_iret hx hb hr hlk hB hS dX8_team_20
  · have hf := hs_ff h3 hf
    refine lv_bipush (v := (-3)) hx hb dX8_team_7 (by decide) ?_
    obtain ⟨rfl, rfl⟩ := hs_ri hf
    exact hs_iret hx hb hr hlk hB hS dX8_team_9
end SX8_team
set_option maxRecDepth 100000 in
theorem ctX8_team (l : Launch) (fu : Nat) (σ : hs_T) (o : Nat) : hs_C0 hs_tvi l yX8_team wsX8_team rmX8_team (fun ad => [.ref (ad o)]) σ (fX8_team fu σ o) := by
  intro X ad sz r τ hf
  refine hs_enter (cc := cX8_team) (maxL := 1) (ret := (some .int)) (by decide) rfl (Nat.le_of_ble_eq_true rfl) ?_
  intro p e s m below meth c ls C hl hem hB hS hsz
  exact wX8_team_e fu C hem σ o hf hB hS hl
/-! ServiceGameModel.feed(JI)I -/
abbrev rmX8_feed : Room := { frames := 1, cells := 0, slots := 0, locals := 25 }
theorem inX8_feed_X8 : ∀ w ∈ wsX80, w ∈ wsX8_feed := fun _ h => List.mem_cons_of_mem _ (List.mem_append_right _ h)
theorem lkX8_feed_0 : Cond.constantLong RX8 121 (8) ∈ wsX8_feed := by decide +kernel
theorem lkX8_feed_1 : Cond.fieldLink RX8 123 "ServiceGameModel" "taped" "I" ∈ wsX8_feed := by decide +kernel
theorem lkX8_feed_2 : Cond.fieldLink RX8 7 "ServiceGameModel" "tape" "[I" ∈ wsX8_feed := by decide +kernel
theorem lkX8_feed_3 : Cond.constantLong RX8 126 (255) ∈ wsX8_feed := by decide +kernel
def fX8_feed_34b (fu : Nat)  (k34 : hs_T → Nat → Int64 → Int32 → Option (Int32 × hs_T)) (σ : hs_T) (x0 : Nat) (x1 : Int64) (x4 : Int32) : Option (Int32 × hs_T) :=
 if x4 < 0 then
 ((hs_gI σ 10 x0 7).bind fun v10 =>
 some (v10, σ))
 else
 ((hs_gN σ 10 x0 2).bind fun n12 =>
 (hs_gI σ 10 x0 7).bind fun v14 =>
 (hs_st σ 11 n12 v14 (((x1 >>> ((8 * x4).toInt64 &&& 63)) &&& 255).toInt32)).bind fun σ15 =>
 (hs_gI σ15 10 x0 7).bind fun v18 =>
 (hs_pI σ15 10 x0 7 (v18 + 1)).bind fun σ20 =>
 k34 σ20 x0 x1 (x4 + (-1)))
def fX8_feed_34 (fu : Nat)  (σ : hs_T) (x0 : Nat) (x1 : Int64) (x4 : Int32) : Option (Int32 × hs_T) :=
   hs_lp (fun (k : hs_T × Nat × Int64 × Int32 → Option (Int32 × hs_T)) (a : hs_T × Nat × Int64 × Int32) => fX8_feed_34b fu  (fun σ x0 x1 x4 => k (σ, x0, x1, x4)) a.1 a.2.1 a.2.2.1 a.2.2.2) fu (σ, x0, x1, x4)
def fX8_feed (fu : Nat) (σ : hs_T) (o : Nat) (a1 : Int64) (a2 : Int32) : Option (Int32 × hs_T) :=
 hs_b2 (fX8_isIn fu σ a2.toInt64 1 8) fun v3 σ2 =>
 if v3 = 0 then
 (some ((-2), σ2))
 else
 ((hs_gI σ2 10 o 7).bind fun v6 =>
 if (v6 + a2) ≤ 120 then
 (fX8_feed_34 fu σ2 o a1 (a2 - 1))
 else
 (some ((-4), σ2)))
section SX8_feed
variable {p : Program} {l : Launch} {e : Env} {s : State} {m : MethodId} {args : Array Value} {below : List Frame} {meth : Method} {c : Code} {X : hs_X} {ad : Nat → Nat} {A : Nat → Prop} {r : Int32} {τ : hs_T}
set_option maxRecDepth 100000 in
set_option maxHeartbeats 4000000 in
theorem wX8_feed_34b (fu : Nat) (C : hs_Cx p s m args meth c X A yX8_feed cX8_feed 5 (some .int) wsX8_feed) (hem : ad hs_em = X.2.2.1.2.2.2)  (k34 : hs_T → Nat → Int64 → Int32 → Option (Int32 × hs_T)) (hk34 : ∀ (σ : hs_T) (x0 : Nat) (x1 : Int64) (x4 : Int32) (H : Heap) (locs : List Loc) (ls : Array Slot), k34 σ x0 x1 x4 = some (r, τ) → hs_H X.1 X.2.1 ad A σ H → va_S A s.heap H locs → lv_has ls 5 [(0, .ref (ad x0)), (1, .long x1), (4, .int x4)] → W p l e rmX8_feed s m args below meth c H locs 0 0 (MQ below (hs_Q0 hs_tvi X ad A r τ) args s 0 0 A) (F0 m 34 ls [])) {H : Heap} {locs : List Loc} {ls : Array Slot} (σ : hs_T) (x0 : Nat) (x1 : Int64) (x4 : Int32) (hf : fX8_feed_34b fu  k34 σ x0 x1 x4 = some (r, τ)) (hB : hs_H X.1 X.2.1 ad A σ H) (hS : va_S A s.heap H locs) (hl : lv_has ls 5 [(0, .ref (ad x0)), (1, .long x1), (4, .int x4)]) : W p l e rmX8_feed s m args below meth c H locs 0 0 (MQ below (hs_Q0 hs_tvi X ad A r τ) args s 0 0 A) (F0 m 34 ls []) := by
  obtain ⟨hx, hb, hml, hr, hts, hown, hlk, hnm, hV, hA0, hA⟩ := id C
  have hown : s.vm.findClass RX8 = some m.cls := hown
  have hK := hV.1
  have hNw := hV.2.1
  unfold fX8_feed_34b at hf
  refine lv_iload hx hb dX8_feed_34 (lv_at hl 2 rfl) ?_
  refine lv_if_lt (tgt := 76) hx hb dX8_feed_36 (by decide) (fun h8 => ?_) (fun h8 => ?_)
  · have hf := hs_tt h8 hf
    refine lv_aload_n hx hb dX8_feed_76 rfl (lv_at hl 0 rfl) ?_
    obtain ⟨v10, h9, hf⟩ := hs_bi hf
    refine x_getI hx hb hts inX8_feed_X8 hown hK hB (by decide) rfl (k := 7) (by decide) rfl h9 (hts _ lkX8_feed_1) (fun _ h9 => h9) dX8_feed_77 ?_
    obtain ⟨rfl, rfl⟩ := hs_ri hf
    exact hs_iret hx hb hr hlk hB hS dX8_feed_80
  · have hf := hs_ff h8 hf
    refine lv_aload_n hx hb dX8_feed_39 rfl (lv_at hl 0 rfl) ?_
    obtain ⟨n12, h11, hf⟩ := hs_bi hf
    refine x_getN hx hb hts inX8_feed_X8 hown hK hB (by decide) rfl (k := 2) (by decide) rfl h11 (hts _ lkX8_feed_2) (fun _ h9 => h9) dX8_feed_40 ?_
    refine lv_aload_n hx hb dX8_feed_43 rfl (lv_at hl 0 rfl) ?_
    obtain ⟨v14, h13, hf⟩ := hs_bi hf
    refine x_getI hx hb hts inX8_feed_X8 hown hK hB (by decide) rfl (k := 7) (by decide) rfl h13 (hts _ lkX8_feed_1) (fun _ h9 => h9) dX8_feed_44 ?_
    refine lv_lload_n hx hb dX8_feed_47 rfl (lv_at hl 1 rfl) ?_
    refine lv_bipush (v := 8) hx hb dX8_feed_48 (by decide) ?_
    refine lv_iload hx hb dX8_feed_50 (lv_at hl 2 rfl) ?_
    refine lv_imul hx hb dX8_feed_52 ?_
    refine lv_lshr hx hb dX8_feed_53 rfl ?_
    refine lv_ldc2 hx hb hown (hts _ lkX8_feed_3) dX8_feed_54 ?_
    refine lv_land hx hb dX8_feed_57 ?_
    refine lv_l2i hx hb dX8_feed_58 rfl ?_
    obtain ⟨σ15, h16, hf⟩ := hs_bi hf
    refine x_iast hx hb hK hB hS h16 dX8_feed_59 (fun H locs hB hS => ?_)
    refine lv_aload_n hx hb dX8_feed_60 rfl (lv_at hl 0 rfl) ?_
    refine lv_dup hx hb dX8_feed_61 rfl ?_
    obtain ⟨v18, h17, hf⟩ := hs_bi hf
    refine x_getI hx hb hts inX8_feed_X8 hown hK hB (by decide) rfl (k := 7) (by decide) rfl h17 (hts _ lkX8_feed_1) (fun _ h9 => h9) dX8_feed_62 ?_
    refine lv_iconst (v := 1) hx hb dX8_feed_65 (by decide) ?_
    refine lv_iadd hx hb dX8_feed_66 ?_
    obtain ⟨σ20, h19, hf⟩ := hs_bi hf
    refine x_putI hx hb hts inX8_feed_X8 tyX8_ok nmX8 hown hK hB hS (by decide) rfl (k := 7) (by decide) rfl h19 (hts _ lkX8_feed_1) (fun _ h9 => h9) rfl (by decide +kernel) dX8_feed_67 (fun H locs hB hS => ?_)
    refine lv_iinc (v := (x4 + (-1))) (lv' := [(4, .int (x4 + (-1))), (0, .ref (ad x0)), (1, .long x1)]) hx hb dX8_feed_70 hl (k := 2) rfl rfl (by decide) rfl (fun ls hl => ?_)
    refine lv_goto (tgt := 34) hx hb dX8_feed_73 (by decide) ?_
    exact hk34 σ20 x0 x1 (x4 + (-1)) _ _ _ hf hB hS (lv_sub hl [1, 2, 0] rfl)
set_option maxRecDepth 100000 in
set_option maxHeartbeats 4000000 in
theorem wX8_feed_34 (fu : Nat) (C : hs_Cx p s m args meth c X A yX8_feed cX8_feed 5 (some .int) wsX8_feed) (hem : ad hs_em = X.2.2.1.2.2.2)  {H : Heap} {locs : List Loc} {ls : Array Slot} (σ : hs_T) (x0 : Nat) (x1 : Int64) (x4 : Int32) (hf : fX8_feed_34 fu  σ x0 x1 x4 = some (r, τ)) (hB : hs_H X.1 X.2.1 ad A σ H) (hS : va_S A s.heap H locs) (hl : lv_has ls 5 [(0, .ref (ad x0)), (1, .long x1), (4, .int x4)]) : W p l e rmX8_feed s m args below meth c H locs 0 0 (MQ below (hs_Q0 hs_tvi X ad A r τ) args s 0 0 A) (F0 m 34 ls []) := by
  unfold fX8_feed_34 at hf
  exact hs_lp_i (P := fun a => ∀ (H : Heap) (locs : List Loc) (ls : Array Slot), hs_H X.1 X.2.1 ad A a.1 H → va_S A s.heap H locs → lv_has ls 5 [(0, .ref (ad a.2.1)), (1, .long a.2.2.1), (4, .int a.2.2.2)] → W p l e rmX8_feed s m args below meth c H locs 0 0 (MQ below (hs_Q0 hs_tvi X ad A r τ) args s 0 0 A) (F0 m 34 ls [])) (fun k a hk hf H locs ls hB hS hl => wX8_feed_34b fu C hem  _ (fun σ x0 x1 x4 H locs ls hf hB hS hl => hk (σ, x0, x1, x4) hf H locs ls hB hS hl) a.1 a.2.1 a.2.2.1 a.2.2.2 hf hB hS hl) fu (σ, x0, x1, x4) hf H locs ls hB hS hl
set_option maxRecDepth 100000 in
set_option maxHeartbeats 4000000 in
theorem wX8_feed_e (fu : Nat) (C : hs_Cx p s m args meth c X A yX8_feed cX8_feed 5 (some .int) wsX8_feed) (hem : ad hs_em = X.2.2.1.2.2.2) {H : Heap} {locs : List Loc} {ls : Array Slot} (σ : hs_T) (o : Nat) (a1 : Int64) (a2 : Int32) (hf : fX8_feed fu σ o a1 a2 = some (r, τ)) (hB : hs_H X.1 X.2.1 ad A σ H) (hS : va_S A s.heap H locs) (hl : lv_has ls 5 [(0, .ref (ad o)), (1, .long a1), (3, .int a2)]) : W p l e rmX8_feed s m args below meth c H locs 0 0 (MQ below (hs_Q0 hs_tvi X ad A r τ) args s 0 0 A) (F0 m 0 ls []) := by
  obtain ⟨hx, hb, hml, hr, hts, hown, hlk, hnm, hV, hA0, hA⟩ := id C
  have hown : s.vm.findClass RX8 = some m.cls := hown
  have hK := hV.1
  have hNw := hV.2.1
  unfold fX8_feed at hf
  refine lv_iload_n hx hb dX8_feed_0 rfl (lv_at hl 2 rfl) ?_
  refine lv_i2l hx hb dX8_feed_1 rfl ?_
  refine lv_lconst (v := 1) hx hb dX8_feed_2 (by decide) ?_
  refine lv_ldc2 hx hb hown (hts _ lkX8_feed_0) dX8_feed_3 ?_
  obtain ⟨v3, σ2, h1, hf⟩ := hs_b2i hf
  refine hs_call0 (va_runS (As := [.long a2.toInt64, .long 1, .long 8]) (rest := []) ⟨hx, hb, hml, hown, hts⟩ (ctX8_isIn l fu σ a2.toInt64 1 8 X ad H.size _ _ h1) (va_cwS 3 hts gX8_feed_X8_isIn rfl rfl rfl (by decide +kernel) ⟨Nat.le_of_ble_eq_true rfl, Nat.le_of_ble_eq_true rfl⟩) (hs_pre hV hB hS hA0 hA hem) rfl rfl hl.1 rfl (lv_room (Nat.le_of_ble_eq_true rfl)) dX8_feed_6 ⟨Nat.le_of_ble_eq_true rfl, Nat.le_of_ble_eq_true rfl⟩) hB hS hA rfl (fun H locs hB hS => ?_)
  refine lv_if_ne (tgt := 15) hx hb dX8_feed_9 (by decide) (fun h4 => ?_) (fun h4 => ?_)
  · have hf := hs_ff h4 hf
    refine lv_aload_n hx hb dX8_feed_15 rfl (lv_at hl 0 rfl) ?_
    obtain ⟨v6, h5, hf⟩ := hs_bi hf
    refine x_getI hx hb hts inX8_feed_X8 hown hK hB (by decide) rfl (k := 7) (by decide) rfl h5 (hts _ lkX8_feed_1) (fun _ h9 => h9) dX8_feed_16 ?_
    refine lv_iload_n hx hb dX8_feed_19 rfl (lv_at hl 2 rfl) ?_
    refine lv_iadd hx hb dX8_feed_20 ?_
    refine lv_bipush (v := 120) hx hb dX8_feed_21 (by decide) ?_
    refine lv_icmp_le (tgt := 29) hx hb dX8_feed_23 (by decide) (fun h7 => ?_) (fun h7 => ?_)
    · have hf := hs_tt h7 hf
      refine lv_iload_n hx hb dX8_feed_29 rfl (lv_at hl 2 rfl) ?_
      refine lv_iconst (v := 1) hx hb dX8_feed_30 (by decide) ?_
      refine lv_isub hx hb dX8_feed_31 ?_
      refine lv_istore (lv' := [(4, .int (a2 - 1)), (0, .ref (ad o)), (1, .long a1), (3, .int a2)]) hx hb dX8_feed_32 hl (by decide) rfl (fun ls hl => ?_)
      exact wX8_feed_34 fu C hem σ2 o a1 (a2 - 1) hf hB hS (lv_sub hl [1, 2, 0] rfl)
    · have hf := hs_ff h7 hf
      refine lv_bipush (v := (-4)) hx hb dX8_feed_26 (by decide) ?_
      obtain ⟨rfl, rfl⟩ := hs_ri hf
      exact hs_iret hx hb hr hlk hB hS dX8_feed_28
  · have hf := hs_tt h4 hf
    refine lv_bipush (v := (-2)) hx hb dX8_feed_12 (by decide) ?_
    obtain ⟨rfl, rfl⟩ := hs_ri hf
    exact hs_iret hx hb hr hlk hB hS dX8_feed_14
end SX8_feed
set_option maxRecDepth 100000 in
theorem ctX8_feed (l : Launch) (fu : Nat) (σ : hs_T) (o : Nat) (a1 : Int64) (a2 : Int32) : hs_C0 hs_tvi l yX8_feed wsX8_feed rmX8_feed (fun ad => [.ref (ad o), .long a1, .int a2]) σ (fX8_feed fu σ o a1 a2) := by
  intro X ad sz r τ hf
  refine hs_enter (cc := cX8_feed) (maxL := 5) (ret := (some .int)) (by decide) rfl (Nat.le_of_ble_eq_true rfl) ?_
  intro p e s m below meth c ls C hl hem hB hS hsz
  exact wX8_feed_e fu C hem σ o a1 a2 hf hB hS hl
/-! ServiceGameModel.sign()I -/
abbrev rmX8_sign : Room := { frames := 0, cells := 0, slots := 0, locals := 0 }
theorem inX8_sign_X8 : ∀ w ∈ wsX80, w ∈ wsX8_sign := fun _ h => List.mem_cons_of_mem _ (List.mem_append_right _ h)
theorem lkX8_sign_0 : Cond.fieldLink RX8 128 "ServiceGameModel" "at" "I" ∈ wsX8_sign := by decide +kernel
theorem lkX8_sign_1 : Cond.fieldLink RX8 123 "ServiceGameModel" "taped" "I" ∈ wsX8_sign := by decide +kernel
theorem lkX8_sign_2 : Cond.fieldLink RX8 7 "ServiceGameModel" "tape" "[I" ∈ wsX8_sign := by decide +kernel
def fX8_sign (fu : Nat) (σ : hs_T) (o : Nat) : Option (Int32 × hs_T) :=
 (hs_gI σ 10 o 8).bind fun v2 =>
 (hs_gI σ 10 o 7).bind fun v4 =>
 if v4 ≤ v2 then
 (some ((-1), σ))
 else
 ((hs_gN σ 10 o 2).bind fun n7 =>
 (hs_gI σ 10 o 8).bind fun v9 =>
 (hs_ld σ 11 n7 v9).bind fun v10 =>
 some (v10, σ))
section SX8_sign
variable {p : Program} {l : Launch} {e : Env} {s : State} {m : MethodId} {args : Array Value} {below : List Frame} {meth : Method} {c : Code} {X : hs_X} {ad : Nat → Nat} {A : Nat → Prop} {r : Int32} {τ : hs_T}
set_option maxRecDepth 100000 in
set_option maxHeartbeats 4000000 in
theorem wX8_sign_e (fu : Nat) (C : hs_Cx p s m args meth c X A yX8_sign cX8_sign 1 (some .int) wsX8_sign) (hem : ad hs_em = X.2.2.1.2.2.2) {H : Heap} {locs : List Loc} {ls : Array Slot} (σ : hs_T) (o : Nat) (hf : fX8_sign fu σ o = some (r, τ)) (hB : hs_H X.1 X.2.1 ad A σ H) (hS : va_S A s.heap H locs) (hl : lv_has ls 1 [(0, .ref (ad o))]) : W p l e rmX8_sign s m args below meth c H locs 0 0 (MQ below (hs_Q0 hs_tvi X ad A r τ) args s 0 0 A) (F0 m 0 ls []) := by
  obtain ⟨hx, hb, hml, hr, hts, hown, hlk, hnm, hV, hA0, hA⟩ := id C
  have hown : s.vm.findClass RX8 = some m.cls := hown
  have hK := hV.1
  have hNw := hV.2.1
  unfold fX8_sign at hf
  refine lv_aload_n hx hb dX8_sign_0 rfl (lv_at hl 0 rfl) ?_
  obtain ⟨v2, h1, hf⟩ := hs_bi hf
  refine x_getI hx hb hts inX8_sign_X8 hown hK hB (by decide) rfl (k := 8) (by decide) rfl h1 (hts _ lkX8_sign_0) (fun _ h9 => h9) dX8_sign_1 ?_
  refine lv_aload_n hx hb dX8_sign_4 rfl (lv_at hl 0 rfl) ?_
  obtain ⟨v4, h3, hf⟩ := hs_bi hf
  refine x_getI hx hb hts inX8_sign_X8 hown hK hB (by decide) rfl (k := 7) (by decide) rfl h3 (hts _ lkX8_sign_1) (fun _ h9 => h9) dX8_sign_5 ?_
  refine lv_icmp_ge (tgt := 23) hx hb dX8_sign_8 (by decide) (fun h5 => ?_) (fun h5 => ?_)
  · have hf := hs_tt h5 hf
    refine lv_iconst (v := (-1)) hx hb dX8_sign_23 (by decide) ?_
    obtain ⟨rfl, rfl⟩ := hs_ri hf
    exact hs_iret hx hb hr hlk hB hS dX8_sign_24
  · have hf := hs_ff h5 hf
    refine lv_aload_n hx hb dX8_sign_11 rfl (lv_at hl 0 rfl) ?_
    obtain ⟨n7, h6, hf⟩ := hs_bi hf
    refine x_getN hx hb hts inX8_sign_X8 hown hK hB (by decide) rfl (k := 2) (by decide) rfl h6 (hts _ lkX8_sign_2) (fun _ h9 => h9) dX8_sign_12 ?_
    refine lv_aload_n hx hb dX8_sign_15 rfl (lv_at hl 0 rfl) ?_
    obtain ⟨v9, h8, hf⟩ := hs_bi hf
    refine x_getI hx hb hts inX8_sign_X8 hown hK hB (by decide) rfl (k := 8) (by decide) rfl h8 (hts _ lkX8_sign_0) (fun _ h9 => h9) dX8_sign_16 ?_
    obtain ⟨v10, h11, hf⟩ := hs_bi hf
    refine x_iald hx hb hK hB h11 dX8_sign_19 ?_
    refine lv_goto (tgt := 24) hx hb dX8_sign_20 (by decide) ?_
    obtain ⟨rfl, rfl⟩ := hs_ri hf
    exact hs_iret hx hb hr hlk hB hS dX8_sign_24
end SX8_sign
set_option maxRecDepth 100000 in
theorem ctX8_sign (l : Launch) (fu : Nat) (σ : hs_T) (o : Nat) : hs_C0 hs_tvi l yX8_sign wsX8_sign rmX8_sign (fun ad => [.ref (ad o)]) σ (fX8_sign fu σ o) := by
  intro X ad sz r τ hf
  refine hs_enter (cc := cX8_sign) (maxL := 1) (ret := (some .int)) (by decide) rfl (Nat.le_of_ble_eq_true rfl) ?_
  intro p e s m below meth c ls C hl hem hB hS hsz
  exact wX8_sign_e fu C hem σ o hf hB hS hl
/-! ServiceGameModel.isDigit()Z -/
abbrev rmX8_isDigit : Room := { frames := 1, cells := 0, slots := 0, locals := 20 }
def fX8_isDigit (fu : Nat) (σ : hs_T) (o : Nat) : Option (Int32 × hs_T) :=
 (hs_ck σ 10 o).bind fun _ =>
 hs_b2 (fX8_sign fu σ o) fun v4 σ2 =>
 if v4 < 48 then
 (some (0, σ2))
 else
 ((hs_ck σ2 10 o).bind fun _ =>
 hs_b2 (fX8_sign fu σ2 o) fun v9 σ7 =>
 if 57 < v9 then
 (some (0, σ7))
 else
 (some (1, σ7)))
section SX8_isDigit
variable {p : Program} {l : Launch} {e : Env} {s : State} {m : MethodId} {args : Array Value} {below : List Frame} {meth : Method} {c : Code} {X : hs_X} {ad : Nat → Nat} {A : Nat → Prop} {r : Int32} {τ : hs_T}
set_option maxRecDepth 100000 in
set_option maxHeartbeats 4000000 in
theorem wX8_isDigit_e (fu : Nat) (C : hs_Cx p s m args meth c X A yX8_isDigit cX8_isDigit 1 (some .boolean) wsX8_isDigit) (hem : ad hs_em = X.2.2.1.2.2.2) {H : Heap} {locs : List Loc} {ls : Array Slot} (σ : hs_T) (o : Nat) (hf : fX8_isDigit fu σ o = some (r, τ)) (hB : hs_H X.1 X.2.1 ad A σ H) (hS : va_S A s.heap H locs) (hl : lv_has ls 1 [(0, .ref (ad o))]) : W p l e rmX8_isDigit s m args below meth c H locs 0 0 (MQ below (hs_Q0 hs_tvi X ad A r τ) args s 0 0 A) (F0 m 0 ls []) := by
  obtain ⟨hx, hb, hml, hr, hts, hown, hlk, hnm, hV, hA0, hA⟩ := id C
  have hown : s.vm.findClass RX8 = some m.cls := hown
  have hK := hV.1
  have hNw := hV.2.1
  unfold fX8_isDigit at hf
  refine lv_aload_n hx hb dX8_isDigit_0 rfl (lv_at hl 0 rfl) ?_
  obtain ⟨_, h3, hf⟩ := hs_bi hf
  obtain ⟨v4, σ2, h1, hf⟩ := hs_b2i hf
  refine hs_call0 (va_runV (As := []) (rest := []) ⟨hx, hb, hml, hown, hts⟩ (ctX8_sign l fu σ o X ad H.size _ _ h1) (cwV 0 hts gX8_isDigit_X8_sign rfl rfl rfl (by decide +kernel) ⟨Nat.le_of_ble_eq_true rfl, Nat.le_of_ble_eq_true rfl⟩) (hs_preV (hs_recv hK hB (hs_ck_i h3) (by decide) rfl) hV hB hS hA0 hA hem) rfl rfl hl.1 rfl (lv_room (Nat.le_of_ble_eq_true rfl)) dX8_isDigit_1 ⟨Nat.le_of_ble_eq_true rfl, Nat.le_of_ble_eq_true rfl⟩) hB hS hA rfl (fun H locs hB hS => ?_)
  refine lv_bipush (v := 48) hx hb dX8_isDigit_4 (by decide) ?_
  refine lv_icmp_lt (tgt := 22) hx hb dX8_isDigit_6 (by decide) (fun h5 => ?_) (fun h5 => ?_)
  · have hf := hs_tt h5 hf
    refine lv_iconst (v := 0) hx hb dX8_isDigit_22 (by decide) ?_
    obtain ⟨rfl, rfl⟩ := hs_ri hf
    exact hs_zret hx hb hr hlk (by decide) hB hS dX8_isDigit_23
  · have hf := hs_ff h5 hf
    refine lv_aload_n hx hb dX8_isDigit_9 rfl (lv_at hl 0 rfl) ?_
    obtain ⟨_, h8, hf⟩ := hs_bi hf
    obtain ⟨v9, σ7, h6, hf⟩ := hs_b2i hf
    refine hs_call0 (va_runV (As := []) (rest := []) ⟨hx, hb, hml, hown, hts⟩ (ctX8_sign l fu σ2 o X ad H.size _ _ h6) (cwV 0 hts gX8_isDigit_X8_sign rfl rfl rfl (by decide +kernel) ⟨Nat.le_of_ble_eq_true rfl, Nat.le_of_ble_eq_true rfl⟩) (hs_preV (hs_recv hK hB (hs_ck_i h8) (by decide) rfl) hV hB hS hA0 hA hem) rfl rfl hl.1 rfl (lv_room (Nat.le_of_ble_eq_true rfl)) dX8_isDigit_10 ⟨Nat.le_of_ble_eq_true rfl, Nat.le_of_ble_eq_true rfl⟩) hB hS hA rfl (fun H locs hB hS => ?_)
    refine lv_bipush (v := 57) hx hb dX8_isDigit_13 (by decide) ?_
    refine lv_icmp_gt (tgt := 22) hx hb dX8_isDigit_15 (by decide) (fun h10 => ?_) (fun h10 => ?_)
    · have hf := hs_tt h10 hf
      refine lv_iconst (v := 0) hx hb dX8_isDigit_22 (by decide) ?_
      obtain ⟨rfl, rfl⟩ := hs_ri hf
      exact hs_zret hx hb hr hlk (by decide) hB hS dX8_isDigit_23
    · have hf := hs_ff h10 hf
      refine lv_iconst (v := 1) hx hb dX8_isDigit_18 (by decide) ?_
      refine lv_goto (tgt := 23) hx hb dX8_isDigit_19 (by decide) ?_
      obtain ⟨rfl, rfl⟩ := hs_ri hf
      exact hs_zret hx hb hr hlk (by decide) hB hS dX8_isDigit_23
end SX8_isDigit
set_option maxRecDepth 100000 in
theorem ctX8_isDigit (l : Launch) (fu : Nat) (σ : hs_T) (o : Nat) : hs_C0 hs_tvi l yX8_isDigit wsX8_isDigit rmX8_isDigit (fun ad => [.ref (ad o)]) σ (fX8_isDigit fu σ o) := by
  intro X ad sz r τ hf
  refine hs_enter (cc := cX8_isDigit) (maxL := 1) (ret := (some .boolean)) (by decide) rfl (Nat.le_of_ble_eq_true rfl) ?_
  intro p e s m below meth c ls C hl hem hB hS hsz
  exact wX8_isDigit_e fu C hem σ o hf hB hS hl
/-! ServiceGameModel.digits(I)I -/
abbrev rmX8_digits : Room := { frames := 2, cells := 0, slots := 0, locals := 40 }
theorem inX8_digits_X8 : ∀ w ∈ wsX80, w ∈ wsX8_digits := fun _ h => List.mem_cons_of_mem _ (List.mem_append_right _ h)
theorem lkX8_digits_0 : Cond.fieldLink RX8 128 "ServiceGameModel" "at" "I" ∈ wsX8_digits := by decide +kernel
def fX8_digits_29b (fu : Nat)  (k29 : hs_T → Nat → Int32 → Int32 → Int32 → Option (Int32 × hs_T)) (σ : hs_T) (x0 : Nat) (x1 : Int32) (x2 : Int32) (x3 : Int32) : Option (Int32 × hs_T) :=
 if x1 ≤ x3 then
 (some (x2, σ))
 else
 (if x2 ≤ 0 then
 (some (x2, σ))
 else
 ((hs_ck σ 10 x0).bind fun _ =>
 hs_b2 (fX8_isDigit fu σ x0) fun v19 σ17 =>
 if v19 = 0 then
 (some (x2, σ17))
 else
 ((hs_ck σ17 10 x0).bind fun _ =>
 hs_b2 (fX8_sign fu σ17 x0) fun v24 σ22 =>
 (hs_gI σ22 10 x0 8).bind fun v26 =>
 (hs_pI σ22 10 x0 8 (v26 + 1)).bind fun σ28 =>
 k29 σ28 x0 x1 (((10 * x2) + v24) - 48) (x3 + 1))))
def fX8_digits_29 (fu : Nat)  (σ : hs_T) (x0 : Nat) (x1 : Int32) (x2 : Int32) (x3 : Int32) : Option (Int32 × hs_T) :=
   hs_lp (fun (k : hs_T × Nat × Int32 × Int32 × Int32 → Option (Int32 × hs_T)) (a : hs_T × Nat × Int32 × Int32 × Int32) => fX8_digits_29b fu  (fun σ x0 x1 x2 x3 => k (σ, x0, x1, x2, x3)) a.1 a.2.1 a.2.2.1 a.2.2.2.1 a.2.2.2.2) fu (σ, x0, x1, x2, x3)
def fX8_digits (fu : Nat) (σ : hs_T) (o : Nat) (a1 : Int32) : Option (Int32 × hs_T) :=
 (hs_ck σ 10 o).bind fun _ =>
 hs_b2 (fX8_isDigit fu σ o) fun v4 σ2 =>
 if v4 = 0 then
 (some ((-1), σ2))
 else
 ((hs_ck σ2 10 o).bind fun _ =>
 hs_b2 (fX8_sign fu σ2 o) fun v9 σ7 =>
 (hs_gI σ7 10 o 8).bind fun v11 =>
 (hs_pI σ7 10 o 8 (v11 + 1)).bind fun σ13 =>
 fX8_digits_29 fu σ13 o a1 (v9 - 48) 1)
section SX8_digits
variable {p : Program} {l : Launch} {e : Env} {s : State} {m : MethodId} {args : Array Value} {below : List Frame} {meth : Method} {c : Code} {X : hs_X} {ad : Nat → Nat} {A : Nat → Prop} {r : Int32} {τ : hs_T}
set_option maxRecDepth 100000 in
set_option maxHeartbeats 4000000 in
theorem wX8_digits_29b (fu : Nat) (C : hs_Cx p s m args meth c X A yX8_digits cX8_digits 4 (some .int) wsX8_digits) (hem : ad hs_em = X.2.2.1.2.2.2)  (k29 : hs_T → Nat → Int32 → Int32 → Int32 → Option (Int32 × hs_T)) (hk29 : ∀ (σ : hs_T) (x0 : Nat) (x1 : Int32) (x2 : Int32) (x3 : Int32) (H : Heap) (locs : List Loc) (ls : Array Slot), k29 σ x0 x1 x2 x3 = some (r, τ) → hs_H X.1 X.2.1 ad A σ H → va_S A s.heap H locs → lv_has ls 4 [(0, .ref (ad x0)), (1, .int x1), (2, .int x2), (3, .int x3)] → W p l e rmX8_digits s m args below meth c H locs 0 0 (MQ below (hs_Q0 hs_tvi X ad A r τ) args s 0 0 A) (F0 m 29 ls [])) {H : Heap} {locs : List Loc} {ls : Array Slot} (σ : hs_T) (x0 : Nat) (x1 : Int32) (x2 : Int32) (x3 : Int32) (hf : fX8_digits_29b fu  k29 σ x0 x1 x2 x3 = some (r, τ)) (hB : hs_H X.1 X.2.1 ad A σ H) (hS : va_S A s.heap H locs) (hl : lv_has ls 4 [(0, .ref (ad x0)), (1, .int x1), (2, .int x2), (3, .int x3)]) : W p l e rmX8_digits s m args below meth c H locs 0 0 (MQ below (hs_Q0 hs_tvi X ad A r τ) args s 0 0 A) (F0 m 29 ls []) := by
  obtain ⟨hx, hb, hml, hr, hts, hown, hlk, hnm, hV, hA0, hA⟩ := id C
  have hown : s.vm.findClass RX8 = some m.cls := hown
  have hK := hV.1
  have hNw := hV.2.1
  unfold fX8_digits_29b at hf
  refine lv_iload_n hx hb dX8_digits_29 rfl (lv_at hl 3 rfl) ?_
  refine lv_iload_n hx hb dX8_digits_30 rfl (lv_at hl 1 rfl) ?_
  refine lv_icmp_ge (tgt := 74) hx hb dX8_digits_31 (by decide) (fun h14 => ?_) (fun h14 => ?_)
  · have hf := hs_tt h14 hf
    refine lv_iload_n hx hb dX8_digits_74 rfl (lv_at hl 2 rfl) ?_
    obtain ⟨rfl, rfl⟩ := hs_ri hf
    exact hs_iret hx hb hr hlk hB hS dX8_digits_75
  · have hf := hs_ff h14 hf
    refine lv_iload_n hx hb dX8_digits_34 rfl (lv_at hl 2 rfl) ?_
    refine lv_if_le (tgt := 74) hx hb dX8_digits_35 (by decide) (fun h15 => ?_) (fun h15 => ?_)
    · have hf := hs_tt h15 hf
      refine lv_iload_n hx hb dX8_digits_74 rfl (lv_at hl 2 rfl) ?_
      obtain ⟨rfl, rfl⟩ := hs_ri hf
      exact hs_iret hx hb hr hlk hB hS dX8_digits_75
    · have hf := hs_ff h15 hf
      refine lv_aload_n hx hb dX8_digits_38 rfl (lv_at hl 0 rfl) ?_
      obtain ⟨_, h18, hf⟩ := hs_bi hf
      obtain ⟨v19, σ17, h16, hf⟩ := hs_b2i hf
      refine hs_call0 (va_runV (As := []) (rest := []) ⟨hx, hb, hml, hown, hts⟩ (ctX8_isDigit l fu σ x0 X ad H.size _ _ h16) (cwV 0 hts gX8_digits_X8_isDigit rfl rfl rfl (by decide +kernel) ⟨Nat.le_of_ble_eq_true rfl, Nat.le_of_ble_eq_true rfl⟩) (hs_preV (hs_recv hK hB (hs_ck_i h18) (by decide) rfl) hV hB hS hA0 hA hem) rfl rfl hl.1 rfl (lv_room (Nat.le_of_ble_eq_true rfl)) dX8_digits_39 ⟨Nat.le_of_ble_eq_true rfl, Nat.le_of_ble_eq_true rfl⟩) hB hS hA rfl (fun H locs hB hS => ?_)
      refine lv_if_eq (tgt := 74) hx hb dX8_digits_42 (by decide) (fun h20 => ?_) (fun h20 => ?_)
      · have hf := hs_tt h20 hf
        refine lv_iload_n hx hb dX8_digits_74 rfl (lv_at hl 2 rfl) ?_
        obtain ⟨rfl, rfl⟩ := hs_ri hf
        exact hs_iret hx hb hr hlk hB hS dX8_digits_75
      · have hf := hs_ff h20 hf
        refine lv_bipush (v := 10) hx hb dX8_digits_45 (by decide) ?_
        refine lv_iload_n hx hb dX8_digits_47 rfl (lv_at hl 2 rfl) ?_
        refine lv_imul hx hb dX8_digits_48 ?_
        refine lv_aload_n hx hb dX8_digits_49 rfl (lv_at hl 0 rfl) ?_
        obtain ⟨_, h23, hf⟩ := hs_bi hf
        obtain ⟨v24, σ22, h21, hf⟩ := hs_b2i hf
        refine hs_call0 (va_runV (As := []) (rest := [.int (10 * x2)]) ⟨hx, hb, hml, hown, hts⟩ (ctX8_sign l fu σ17 x0 X ad H.size _ _ h21) (cwV 0 hts gX8_digits_X8_sign rfl rfl rfl (by decide +kernel) ⟨Nat.le_of_ble_eq_true rfl, Nat.le_of_ble_eq_true rfl⟩) (hs_preV (hs_recv hK hB (hs_ck_i h23) (by decide) rfl) hV hB hS hA0 hA hem) rfl rfl hl.1 rfl (lv_room (Nat.le_of_ble_eq_true rfl)) dX8_digits_50 ⟨Nat.le_of_ble_eq_true rfl, Nat.le_of_ble_eq_true rfl⟩) hB hS hA rfl (fun H locs hB hS => ?_)
        refine lv_iadd hx hb dX8_digits_53 ?_
        refine lv_bipush (v := 48) hx hb dX8_digits_54 (by decide) ?_
        refine lv_isub hx hb dX8_digits_56 ?_
        refine lv_istore_n (lv' := [(2, .int (((10 * x2) + v24) - 48)), (0, .ref (ad x0)), (1, .int x1), (3, .int x3)]) hx hb dX8_digits_57 rfl hl (by decide) rfl (fun ls hl => ?_)
        refine lv_aload_n hx hb dX8_digits_58 rfl (lv_at hl 1 rfl) ?_
        refine lv_dup hx hb dX8_digits_59 rfl ?_
        obtain ⟨v26, h25, hf⟩ := hs_bi hf
        refine x_getI hx hb hts inX8_digits_X8 hown hK hB (by decide) rfl (k := 8) (by decide) rfl h25 (hts _ lkX8_digits_0) (fun _ h9 => h9) dX8_digits_60 ?_
        refine lv_iconst (v := 1) hx hb dX8_digits_63 (by decide) ?_
        refine lv_iadd hx hb dX8_digits_64 ?_
        obtain ⟨σ28, h27, hf⟩ := hs_bi hf
        refine x_putI hx hb hts inX8_digits_X8 tyX8_ok nmX8 hown hK hB hS (by decide) rfl (k := 8) (by decide) rfl h27 (hts _ lkX8_digits_0) (fun _ h9 => h9) rfl (by decide +kernel) dX8_digits_65 (fun H locs hB hS => ?_)
        refine lv_iinc (v := (x3 + 1)) (lv' := [(3, .int (x3 + 1)), (2, .int (((10 * x2) + v24) - 48)), (0, .ref (ad x0)), (1, .int x1)]) hx hb dX8_digits_68 hl (k := 3) rfl rfl (by decide) rfl (fun ls hl => ?_)
        refine lv_goto (tgt := 29) hx hb dX8_digits_71 (by decide) ?_
        exact hk29 σ28 x0 x1 (((10 * x2) + v24) - 48) (x3 + 1) _ _ _ hf hB hS (lv_sub hl [2, 3, 1, 0] rfl)
set_option maxRecDepth 100000 in
set_option maxHeartbeats 4000000 in
theorem wX8_digits_29 (fu : Nat) (C : hs_Cx p s m args meth c X A yX8_digits cX8_digits 4 (some .int) wsX8_digits) (hem : ad hs_em = X.2.2.1.2.2.2)  {H : Heap} {locs : List Loc} {ls : Array Slot} (σ : hs_T) (x0 : Nat) (x1 : Int32) (x2 : Int32) (x3 : Int32) (hf : fX8_digits_29 fu  σ x0 x1 x2 x3 = some (r, τ)) (hB : hs_H X.1 X.2.1 ad A σ H) (hS : va_S A s.heap H locs) (hl : lv_has ls 4 [(0, .ref (ad x0)), (1, .int x1), (2, .int x2), (3, .int x3)]) : W p l e rmX8_digits s m args below meth c H locs 0 0 (MQ below (hs_Q0 hs_tvi X ad A r τ) args s 0 0 A) (F0 m 29 ls []) := by
  unfold fX8_digits_29 at hf
  exact hs_lp_i (P := fun a => ∀ (H : Heap) (locs : List Loc) (ls : Array Slot), hs_H X.1 X.2.1 ad A a.1 H → va_S A s.heap H locs → lv_has ls 4 [(0, .ref (ad a.2.1)), (1, .int a.2.2.1), (2, .int a.2.2.2.1), (3, .int a.2.2.2.2)] → W p l e rmX8_digits s m args below meth c H locs 0 0 (MQ below (hs_Q0 hs_tvi X ad A r τ) args s 0 0 A) (F0 m 29 ls [])) (fun k a hk hf H locs ls hB hS hl => wX8_digits_29b fu C hem  _ (fun σ x0 x1 x2 x3 H locs ls hf hB hS hl => hk (σ, x0, x1, x2, x3) hf H locs ls hB hS hl) a.1 a.2.1 a.2.2.1 a.2.2.2.1 a.2.2.2.2 hf hB hS hl) fu (σ, x0, x1, x2, x3) hf H locs ls hB hS hl
set_option maxRecDepth 100000 in
set_option maxHeartbeats 4000000 in
theorem wX8_digits_e (fu : Nat) (C : hs_Cx p s m args meth c X A yX8_digits cX8_digits 4 (some .int) wsX8_digits) (hem : ad hs_em = X.2.2.1.2.2.2) {H : Heap} {locs : List Loc} {ls : Array Slot} (σ : hs_T) (o : Nat) (a1 : Int32) (hf : fX8_digits fu σ o a1 = some (r, τ)) (hB : hs_H X.1 X.2.1 ad A σ H) (hS : va_S A s.heap H locs) (hl : lv_has ls 4 [(0, .ref (ad o)), (1, .int a1)]) : W p l e rmX8_digits s m args below meth c H locs 0 0 (MQ below (hs_Q0 hs_tvi X ad A r τ) args s 0 0 A) (F0 m 0 ls []) := by
  obtain ⟨hx, hb, hml, hr, hts, hown, hlk, hnm, hV, hA0, hA⟩ := id C
  have hown : s.vm.findClass RX8 = some m.cls := hown
  have hK := hV.1
  have hNw := hV.2.1
  unfold fX8_digits at hf
  refine lv_aload_n hx hb dX8_digits_0 rfl (lv_at hl 0 rfl) ?_
  obtain ⟨_, h3, hf⟩ := hs_bi hf
  obtain ⟨v4, σ2, h1, hf⟩ := hs_b2i hf
  refine hs_call0 (va_runV (As := []) (rest := []) ⟨hx, hb, hml, hown, hts⟩ (ctX8_isDigit l fu σ o X ad H.size _ _ h1) (cwV 0 hts gX8_digits_X8_isDigit rfl rfl rfl (by decide +kernel) ⟨Nat.le_of_ble_eq_true rfl, Nat.le_of_ble_eq_true rfl⟩) (hs_preV (hs_recv hK hB (hs_ck_i h3) (by decide) rfl) hV hB hS hA0 hA hem) rfl rfl hl.1 rfl (lv_room (Nat.le_of_ble_eq_true rfl)) dX8_digits_1 ⟨Nat.le_of_ble_eq_true rfl, Nat.le_of_ble_eq_true rfl⟩) hB hS hA rfl (fun H locs hB hS => ?_)
  refine lv_if_ne (tgt := 9) hx hb dX8_digits_4 (by decide) (fun h5 => ?_) (fun h5 => ?_)
  · have hf := hs_ff h5 hf
    refine lv_aload_n hx hb dX8_digits_9 rfl (lv_at hl 0 rfl) ?_
    obtain ⟨_, h8, hf⟩ := hs_bi hf
    obtain ⟨v9, σ7, h6, hf⟩ := hs_b2i hf
    refine hs_call0 (va_runV (As := []) (rest := []) ⟨hx, hb, hml, hown, hts⟩ (ctX8_sign l fu σ2 o X ad H.size _ _ h6) (cwV 0 hts gX8_digits_X8_sign rfl rfl rfl (by decide +kernel) ⟨Nat.le_of_ble_eq_true rfl, Nat.le_of_ble_eq_true rfl⟩) (hs_preV (hs_recv hK hB (hs_ck_i h8) (by decide) rfl) hV hB hS hA0 hA hem) rfl rfl hl.1 rfl (lv_room (Nat.le_of_ble_eq_true rfl)) dX8_digits_10 ⟨Nat.le_of_ble_eq_true rfl, Nat.le_of_ble_eq_true rfl⟩) hB hS hA rfl (fun H locs hB hS => ?_)
    refine lv_bipush (v := 48) hx hb dX8_digits_13 (by decide) ?_
    refine lv_isub hx hb dX8_digits_15 ?_
    refine lv_istore_n (lv' := [(2, .int (v9 - 48)), (0, .ref (ad o)), (1, .int a1)]) hx hb dX8_digits_16 rfl hl (by decide) rfl (fun ls hl => ?_)
    refine lv_aload_n hx hb dX8_digits_17 rfl (lv_at hl 1 rfl) ?_
    refine lv_dup hx hb dX8_digits_18 rfl ?_
    obtain ⟨v11, h10, hf⟩ := hs_bi hf
    refine x_getI hx hb hts inX8_digits_X8 hown hK hB (by decide) rfl (k := 8) (by decide) rfl h10 (hts _ lkX8_digits_0) (fun _ h9 => h9) dX8_digits_19 ?_
    refine lv_iconst (v := 1) hx hb dX8_digits_22 (by decide) ?_
    refine lv_iadd hx hb dX8_digits_23 ?_
    obtain ⟨σ13, h12, hf⟩ := hs_bi hf
    refine x_putI hx hb hts inX8_digits_X8 tyX8_ok nmX8 hown hK hB hS (by decide) rfl (k := 8) (by decide) rfl h12 (hts _ lkX8_digits_0) (fun _ h9 => h9) rfl (by decide +kernel) dX8_digits_24 (fun H locs hB hS => ?_)
    refine lv_iconst (v := 1) hx hb dX8_digits_27 (by decide) ?_
    refine lv_istore_n (lv' := [(3, .int 1), (2, .int (v9 - 48)), (0, .ref (ad o)), (1, .int a1)]) hx hb dX8_digits_28 rfl hl (by decide) rfl (fun ls hl => ?_)
    exact wX8_digits_29 fu C hem σ13 o a1 (v9 - 48) 1 hf hB hS (lv_sub hl [2, 3, 1, 0] rfl)
  · have hf := hs_tt h5 hf
    refine lv_iconst (v := (-1)) hx hb dX8_digits_7 (by decide) ?_
    obtain ⟨rfl, rfl⟩ := hs_ri hf
    exact hs_iret hx hb hr hlk hB hS dX8_digits_8
end SX8_digits
set_option maxRecDepth 100000 in
theorem ctX8_digits (l : Launch) (fu : Nat) (σ : hs_T) (o : Nat) (a1 : Int32) : hs_C0 hs_tvi l yX8_digits wsX8_digits rmX8_digits (fun ad => [.ref (ad o), .int a1]) σ (fX8_digits fu σ o a1) := by
  intro X ad sz r τ hf
  refine hs_enter (cc := cX8_digits) (maxL := 4) (ret := (some .int)) (by decide) rfl (Nat.le_of_ble_eq_true rfl) ?_
  intro p e s m below meth c ls C hl hem hB hS hsz
  exact wX8_digits_e fu C hem σ o a1 hf hB hS hl
/-! ServiceGameModel.readsStep()Z -/
abbrev rmX8_readsStep : Room := { frames := 3, cells := 0, slots := 0, locals := 63 }
theorem inX8_readsStep_X8 : ∀ w ∈ wsX80, w ∈ wsX8_readsStep := fun _ h => List.mem_cons_of_mem _ (List.mem_append_right _ h)
theorem lkX8_readsStep_0 : Cond.fieldLink RX8 128 "ServiceGameModel" "at" "I" ∈ wsX8_readsStep := by decide +kernel
theorem lkX8_readsStep_1 : Cond.fieldLink RX8 26 "ServiceGameModel" "readStep" "[I" ∈ wsX8_readsStep := by decide +kernel
theorem lkX8_readsStep_2 : Cond.fieldLink RX8 143 "ServiceGameModel" "readMany" "I" ∈ wsX8_readsStep := by decide +kernel
theorem lkX8_readsStep_3 : Cond.fieldLink RX8 29 "ServiceGameModel" "readNumber" "[I" ∈ wsX8_readsStep := by decide +kernel
def fX8_readsStep_198 (fu : Nat)  (σ : hs_T) (x0 : Nat) (x1 : Int32) (x2 : Int32) : Option (Int32 × hs_T) :=
 (hs_gN σ 10 x0 9).bind fun n22 =>
 (hs_gI σ 10 x0 11).bind fun v24 =>
 (hs_st σ 11 n22 v24 x1).bind fun σ25 =>
 (hs_gN σ25 10 x0 10).bind fun n28 =>
 (hs_gI σ25 10 x0 11).bind fun v30 =>
 (hs_st σ25 11 n28 v30 x2).bind fun σ31 =>
 (hs_gI σ31 10 x0 11).bind fun v34 =>
 (hs_pI σ31 10 x0 11 (v34 + 1)).bind fun σ36 =>
 some (1, σ36)
def fX8_readsStep_188 (fu : Nat)  (σ : hs_T) (x0 : Nat) (x1 : Int32) (y0 : Int32) (y1 : Nat) : Option (Int32 × hs_T) :=
 (hs_ck σ 10 y1).bind fun _ =>
 hs_b2 (fX8_digits fu σ y1 y0) fun v19 σ17 =>
 if 0 ≤ v19 then
 (fX8_readsStep_198 fu σ17 x0 x1 v19)
 else
 (some (0, σ17))
def fX8_readsStep_177 (fu : Nat)  (σ : hs_T) (x0 : Nat) (x1 : Int32) (x5 : Int32) : Option (Int32 × hs_T) :=
 if x5 = 0 then
 (fX8_readsStep_188 fu σ x0 x1 4 x0)
 else
 (fX8_readsStep_188 fu σ x0 x1 2 x0)
def fX8_readsStep_166 (fu : Nat)  (σ : hs_T) (x0 : Nat) (x1 : Int32) (x2 : Int32) (x5 : Int32) : Option (Int32 × hs_T) :=
 if x5 = 0 then
 (if x1 = 112 then
 (fX8_readsStep_177 fu σ x0 x1 x5)
 else
 (fX8_readsStep_198 fu σ x0 x1 x2))
 else
 (fX8_readsStep_177 fu σ x0 x1 x5)
def fX8_readsStep_127 (fu : Nat)  (σ : hs_T) (x0 : Nat) (x1 : Int32) (x2 : Int32) (x4 : Int32) (x5 : Int32) : Option (Int32 × hs_T) :=
 (hs_gI σ 10 x0 8).bind fun v10 =>
 (hs_pI σ 10 x0 8 (v10 + 1)).bind fun σ12 =>
 if x4 = 0 then
 (fX8_readsStep_166 fu σ12 x0 x1 x2 x5)
 else
 ((hs_ck σ12 10 x0).bind fun _ =>
 hs_b2 (fX8_isDigit fu σ12 x0) fun v41 σ39 =>
 if v41 = 0 then
 (some (0, σ39))
 else
 ((hs_ck σ39 10 x0).bind fun _ =>
 hs_b2 (fX8_sign fu σ39 x0) fun v46 σ44 =>
 if v46 ≤ 55 then
 ((hs_ck σ44 10 x0).bind fun _ =>
 hs_b2 (fX8_digits fu σ44 x0 1) fun v51 σ49 =>
 fX8_readsStep_166 fu σ49 x0 x1 v51 x5)
 else
 (some (0, σ44))))
def fX8_readsStep_103 (fu : Nat)  (σ : hs_T) (x0 : Nat) (x1 : Int32) (x2 : Int32) (x3 : Int32) (x4 : Int32) (y0 : Int32) : Option (Int32 × hs_T) :=
 if x3 = 0 then
 (if x4 = 0 then
 (if y0 = 0 then
 (if x1 = 112 then
 (fX8_readsStep_127 fu σ x0 x1 x2 x4 y0)
 else
 (some (0, σ)))
 else
 (fX8_readsStep_127 fu σ x0 x1 x2 x4 y0))
 else
 (fX8_readsStep_127 fu σ x0 x1 x2 x4 y0))
 else
 (fX8_readsStep_127 fu σ x0 x1 x2 x4 y0)
def fX8_readsStep_98 (fu : Nat)  (σ : hs_T) (x0 : Nat) (x1 : Int32) (x2 : Int32) (x3 : Int32) (x4 : Int32) : Option (Int32 × hs_T) :=
 fX8_readsStep_103 fu σ x0 x1 x2 x3 x4 1
def fX8_readsStep_84 (fu : Nat)  (σ : hs_T) (x0 : Nat) (x1 : Int32) (x2 : Int32) (x3 : Int32) (y0 : Int32) : Option (Int32 × hs_T) :=
 if x1 = 106 then
 (fX8_readsStep_98 fu σ x0 x1 x2 x3 y0)
 else
 (if x1 = 103 then
 (fX8_readsStep_98 fu σ x0 x1 x2 x3 y0)
 else
 (fX8_readsStep_103 fu σ x0 x1 x2 x3 y0 0))
def fX8_readsStep_79 (fu : Nat)  (σ : hs_T) (x0 : Nat) (x1 : Int32) (x2 : Int32) (x3 : Int32) : Option (Int32 × hs_T) :=
 fX8_readsStep_84 fu σ x0 x1 x2 x3 1
def fX8_readsStep_66 (fu : Nat)  (σ : hs_T) (x0 : Nat) (x1 : Int32) (x2 : Int32) (y0 : Int32) : Option (Int32 × hs_T) :=
 if x1 = 108 then
 (fX8_readsStep_79 fu σ x0 x1 x2 y0)
 else
 (if x1 = 115 then
 (fX8_readsStep_79 fu σ x0 x1 x2 y0)
 else
 (fX8_readsStep_84 fu σ x0 x1 x2 y0 0))
def fX8_readsStep_61 (fu : Nat)  (σ : hs_T) (x0 : Nat) (x1 : Int32) (x2 : Int32) : Option (Int32 × hs_T) :=
 fX8_readsStep_66 fu σ x0 x1 x2 1
def fX8_readsStep (fu : Nat) (σ : hs_T) (o : Nat) : Option (Int32 × hs_T) :=
 (hs_ck σ 10 o).bind fun _ =>
 hs_b2 (fX8_sign fu σ o) fun v4 σ2 =>
 if v4 = 97 then
 (fX8_readsStep_61 fu σ2 o v4 0)
 else
 (if v4 = 98 then
 (fX8_readsStep_61 fu σ2 o v4 0)
 else
 (if v4 = 43 then
 (fX8_readsStep_61 fu σ2 o v4 0)
 else
 (if v4 = 45 then
 (fX8_readsStep_61 fu σ2 o v4 0)
 else
 (if v4 = 42 then
 (fX8_readsStep_61 fu σ2 o v4 0)
 else
 (if v4 = 61 then
 (fX8_readsStep_61 fu σ2 o v4 0)
 else
 (if v4 = 60 then
 (fX8_readsStep_61 fu σ2 o v4 0)
 else
 (if v4 = 111 then
 (fX8_readsStep_61 fu σ2 o v4 0)
 else
 (if v4 = 104 then
 (fX8_readsStep_61 fu σ2 o v4 0)
 else
 (fX8_readsStep_66 fu σ2 o v4 0 0)))))))))
section SX8_readsStep
variable {p : Program} {l : Launch} {e : Env} {s : State} {m : MethodId} {args : Array Value} {below : List Frame} {meth : Method} {c : Code} {X : hs_X} {ad : Nat → Nat} {A : Nat → Prop} {r : Int32} {τ : hs_T}
set_option maxRecDepth 100000 in
set_option maxHeartbeats 4000000 in
theorem wX8_readsStep_198 (fu : Nat) (C : hs_Cx p s m args meth c X A yX8_readsStep cX8_readsStep 6 (some .boolean) wsX8_readsStep) (hem : ad hs_em = X.2.2.1.2.2.2)  {H : Heap} {locs : List Loc} {ls : Array Slot} (σ : hs_T) (x0 : Nat) (x1 : Int32) (x2 : Int32) (hf : fX8_readsStep_198 fu  σ x0 x1 x2 = some (r, τ)) (hB : hs_H X.1 X.2.1 ad A σ H) (hS : va_S A s.heap H locs) (hl : lv_has ls 6 [(0, .ref (ad x0)), (1, .int x1), (2, .int x2)]) : W p l e rmX8_readsStep s m args below meth c H locs 0 0 (MQ below (hs_Q0 hs_tvi X ad A r τ) args s 0 0 A) (F0 m 198 ls []) := by
  obtain ⟨hx, hb, hml, hr, hts, hown, hlk, hnm, hV, hA0, hA⟩ := id C
  have hown : s.vm.findClass RX8 = some m.cls := hown
  have hK := hV.1
  have hNw := hV.2.1
  unfold fX8_readsStep_198 at hf
  refine lv_aload_n hx hb dX8_readsStep_198 rfl (lv_at hl 0 rfl) ?_
  obtain ⟨n22, h21, hf⟩ := hs_bi hf
  refine x_getN hx hb hts inX8_readsStep_X8 hown hK hB (by decide) rfl (k := 9) (by decide) rfl h21 (hts _ lkX8_readsStep_1) (fun _ h9 => h9) dX8_readsStep_199 ?_
  refine lv_aload_n hx hb dX8_readsStep_202 rfl (lv_at hl 0 rfl) ?_
  obtain ⟨v24, h23, hf⟩ := hs_bi hf
  refine x_getI hx hb hts inX8_readsStep_X8 hown hK hB (by decide) rfl (k := 11) (by decide) rfl h23 (hts _ lkX8_readsStep_2) (fun _ h9 => h9) dX8_readsStep_203 ?_
  refine lv_iload_n hx hb dX8_readsStep_206 rfl (lv_at hl 1 rfl) ?_
  obtain ⟨σ25, h26, hf⟩ := hs_bi hf
  refine x_iast hx hb hK hB hS h26 dX8_readsStep_207 (fun H locs hB hS => ?_)
  refine lv_aload_n hx hb dX8_readsStep_208 rfl (lv_at hl 0 rfl) ?_
  obtain ⟨n28, h27, hf⟩ := hs_bi hf
  refine x_getN hx hb hts inX8_readsStep_X8 hown hK hB (by decide) rfl (k := 10) (by decide) rfl h27 (hts _ lkX8_readsStep_3) (fun _ h9 => h9) dX8_readsStep_209 ?_
  refine lv_aload_n hx hb dX8_readsStep_212 rfl (lv_at hl 0 rfl) ?_
  obtain ⟨v30, h29, hf⟩ := hs_bi hf
  refine x_getI hx hb hts inX8_readsStep_X8 hown hK hB (by decide) rfl (k := 11) (by decide) rfl h29 (hts _ lkX8_readsStep_2) (fun _ h9 => h9) dX8_readsStep_213 ?_
  refine lv_iload_n hx hb dX8_readsStep_216 rfl (lv_at hl 2 rfl) ?_
  obtain ⟨σ31, h32, hf⟩ := hs_bi hf
  refine x_iast hx hb hK hB hS h32 dX8_readsStep_217 (fun H locs hB hS => ?_)
  refine lv_aload_n hx hb dX8_readsStep_218 rfl (lv_at hl 0 rfl) ?_
  refine lv_dup hx hb dX8_readsStep_219 rfl ?_
  obtain ⟨v34, h33, hf⟩ := hs_bi hf
  refine x_getI hx hb hts inX8_readsStep_X8 hown hK hB (by decide) rfl (k := 11) (by decide) rfl h33 (hts _ lkX8_readsStep_2) (fun _ h9 => h9) dX8_readsStep_220 ?_
  refine lv_iconst (v := 1) hx hb dX8_readsStep_223 (by decide) ?_
  refine lv_iadd hx hb dX8_readsStep_224 ?_
  obtain ⟨σ36, h35, hf⟩ := hs_bi hf
  refine x_putI hx hb hts inX8_readsStep_X8 tyX8_ok nmX8 hown hK hB hS (by decide) rfl (k := 11) (by decide) rfl h35 (hts _ lkX8_readsStep_2) (fun _ h9 => h9) rfl (by decide +kernel) dX8_readsStep_225 (fun H locs hB hS => ?_)
  refine lv_iconst (v := 1) hx hb dX8_readsStep_228 (by decide) ?_
  obtain ⟨rfl, rfl⟩ := hs_ri hf
  exact hs_zret hx hb hr hlk (by decide) hB hS dX8_readsStep_229
set_option maxRecDepth 100000 in
set_option maxHeartbeats 4000000 in
theorem wX8_readsStep_188 (fu : Nat) (C : hs_Cx p s m args meth c X A yX8_readsStep cX8_readsStep 6 (some .boolean) wsX8_readsStep) (hem : ad hs_em = X.2.2.1.2.2.2)  {H : Heap} {locs : List Loc} {ls : Array Slot} (σ : hs_T) (x0 : Nat) (x1 : Int32) (y0 : Int32) (y1 : Nat) (hf : fX8_readsStep_188 fu  σ x0 x1 y0 y1 = some (r, τ)) (hB : hs_H X.1 X.2.1 ad A σ H) (hS : va_S A s.heap H locs) (hl : lv_has ls 6 [(0, .ref (ad x0)), (1, .int x1)]) : W p l e rmX8_readsStep s m args below meth c H locs 0 0 (MQ below (hs_Q0 hs_tvi X ad A r τ) args s 0 0 A) (F0 m 188 ls [.int y0, .ref (ad y1)]) := by
  obtain ⟨hx, hb, hml, hr, hts, hown, hlk, hnm, hV, hA0, hA⟩ := id C
  have hown : s.vm.findClass RX8 = some m.cls := hown
  have hK := hV.1
  have hNw := hV.2.1
  unfold fX8_readsStep_188 at hf
  obtain ⟨_, h18, hf⟩ := hs_bi hf
  obtain ⟨v19, σ17, h16, hf⟩ := hs_b2i hf
  refine hs_call0 (va_runV (As := [.int y0]) (rest := []) ⟨hx, hb, hml, hown, hts⟩ (ctX8_digits l fu σ y1 y0 X ad H.size _ _ h16) (cwV 1 hts gX8_readsStep_X8_digits rfl rfl rfl (by decide +kernel) ⟨Nat.le_of_ble_eq_true rfl, Nat.le_of_ble_eq_true rfl⟩) (hs_preV (hs_recv hK hB (hs_ck_i h18) (by decide) rfl) hV hB hS hA0 hA hem) rfl rfl hl.1 rfl (lv_room (Nat.le_of_ble_eq_true rfl)) dX8_readsStep_188 ⟨Nat.le_of_ble_eq_true rfl, Nat.le_of_ble_eq_true rfl⟩) hB hS hA rfl (fun H locs hB hS => ?_)
  refine lv_istore_n (lv' := [(2, .int v19), (0, .ref (ad x0)), (1, .int x1)]) hx hb dX8_readsStep_191 rfl hl (by decide) rfl (fun ls hl => ?_)
  refine lv_iload_n hx hb dX8_readsStep_192 rfl (lv_at hl 0 rfl) ?_
  refine lv_if_ge (tgt := 198) hx hb dX8_readsStep_193 (by decide) (fun h20 => ?_) (fun h20 => ?_)
  · have hf := hs_tt h20 hf
    exact wX8_readsStep_198 fu C hem σ17 x0 x1 v19 hf hB hS (lv_sub hl [1, 2, 0] rfl)
  · have hf := hs_ff h20 hf
    refine lv_iconst (v := 0) hx hb dX8_readsStep_196 (by decide) ?_
    obtain ⟨rfl, rfl⟩ := hs_ri hf
    exact hs_zret hx hb hr hlk (by decide) hB hS dX8_readsStep_197
set_option maxRecDepth 100000 in
set_option maxHeartbeats 4000000 in
theorem wX8_readsStep_177 (fu : Nat) (C : hs_Cx p s m args meth c X A yX8_readsStep cX8_readsStep 6 (some .boolean) wsX8_readsStep) (hem : ad hs_em = X.2.2.1.2.2.2)  {H : Heap} {locs : List Loc} {ls : Array Slot} (σ : hs_T) (x0 : Nat) (x1 : Int32) (x5 : Int32) (hf : fX8_readsStep_177 fu  σ x0 x1 x5 = some (r, τ)) (hB : hs_H X.1 X.2.1 ad A σ H) (hS : va_S A s.heap H locs) (hl : lv_has ls 6 [(0, .ref (ad x0)), (1, .int x1), (5, .int x5)]) : W p l e rmX8_readsStep s m args below meth c H locs 0 0 (MQ below (hs_Q0 hs_tvi X ad A r τ) args s 0 0 A) (F0 m 177 ls []) := by
  obtain ⟨hx, hb, hml, hr, hts, hown, hlk, hnm, hV, hA0, hA⟩ := id C
  have hown : s.vm.findClass RX8 = some m.cls := hown
  have hK := hV.1
  have hNw := hV.2.1
  unfold fX8_readsStep_177 at hf
  refine lv_aload_n hx hb dX8_readsStep_177 rfl (lv_at hl 0 rfl) ?_
  refine lv_iload hx hb dX8_readsStep_178 (lv_at hl 2 rfl) ?_
  refine lv_if_eq (tgt := 187) hx hb dX8_readsStep_180 (by decide) (fun h15 => ?_) (fun h15 => ?_)
  · have hf := hs_tt h15 hf
    refine lv_iconst (v := 4) hx hb dX8_readsStep_187 (by decide) ?_
    exact wX8_readsStep_188 fu C hem σ x0 x1 4 x0 hf hB hS (lv_sub hl [0, 1] rfl)
  · have hf := hs_ff h15 hf
    refine lv_iconst (v := 2) hx hb dX8_readsStep_183 (by decide) ?_
    refine lv_goto (tgt := 188) hx hb dX8_readsStep_184 (by decide) ?_
    exact wX8_readsStep_188 fu C hem σ x0 x1 2 x0 hf hB hS (lv_sub hl [0, 1] rfl)
set_option maxRecDepth 100000 in
set_option maxHeartbeats 4000000 in
theorem wX8_readsStep_166 (fu : Nat) (C : hs_Cx p s m args meth c X A yX8_readsStep cX8_readsStep 6 (some .boolean) wsX8_readsStep) (hem : ad hs_em = X.2.2.1.2.2.2)  {H : Heap} {locs : List Loc} {ls : Array Slot} (σ : hs_T) (x0 : Nat) (x1 : Int32) (x2 : Int32) (x5 : Int32) (hf : fX8_readsStep_166 fu  σ x0 x1 x2 x5 = some (r, τ)) (hB : hs_H X.1 X.2.1 ad A σ H) (hS : va_S A s.heap H locs) (hl : lv_has ls 6 [(0, .ref (ad x0)), (1, .int x1), (2, .int x2), (5, .int x5)]) : W p l e rmX8_readsStep s m args below meth c H locs 0 0 (MQ below (hs_Q0 hs_tvi X ad A r τ) args s 0 0 A) (F0 m 166 ls []) := by
  obtain ⟨hx, hb, hml, hr, hts, hown, hlk, hnm, hV, hA0, hA⟩ := id C
  have hown : s.vm.findClass RX8 = some m.cls := hown
  have hK := hV.1
  have hNw := hV.2.1
  unfold fX8_readsStep_166 at hf
  refine lv_iload hx hb dX8_readsStep_166 (lv_at hl 3 rfl) ?_
  refine lv_if_ne (tgt := 177) hx hb dX8_readsStep_168 (by decide) (fun h14 => ?_) (fun h14 => ?_)
  · have hf := hs_ff h14 hf
    exact wX8_readsStep_177 fu C hem σ x0 x1 x5 hf hB hS (lv_sub hl [0, 1, 3] rfl)
  · have hf := hs_tt h14 hf
    refine lv_iload_n hx hb dX8_readsStep_171 rfl (lv_at hl 1 rfl) ?_
    refine lv_bipush (v := 112) hx hb dX8_readsStep_172 (by decide) ?_
    refine lv_icmp_ne (tgt := 198) hx hb dX8_readsStep_174 (by decide) (fun h37 => ?_) (fun h37 => ?_)
    · have hf := hs_ff h37 hf
      exact wX8_readsStep_198 fu C hem σ x0 x1 x2 hf hB hS (lv_sub hl [0, 1, 2] rfl)
    · have hf := hs_tt h37 hf
      exact wX8_readsStep_177 fu C hem σ x0 x1 x5 hf hB hS (lv_sub hl [0, 1, 3] rfl)
set_option maxRecDepth 100000 in
set_option maxHeartbeats 4000000 in
theorem wX8_readsStep_127 (fu : Nat) (C : hs_Cx p s m args meth c X A yX8_readsStep cX8_readsStep 6 (some .boolean) wsX8_readsStep) (hem : ad hs_em = X.2.2.1.2.2.2)  {H : Heap} {locs : List Loc} {ls : Array Slot} (σ : hs_T) (x0 : Nat) (x1 : Int32) (x2 : Int32) (x4 : Int32) (x5 : Int32) (hf : fX8_readsStep_127 fu  σ x0 x1 x2 x4 x5 = some (r, τ)) (hB : hs_H X.1 X.2.1 ad A σ H) (hS : va_S A s.heap H locs) (hl : lv_has ls 6 [(0, .ref (ad x0)), (1, .int x1), (2, .int x2), (4, .int x4), (5, .int x5)]) : W p l e rmX8_readsStep s m args below meth c H locs 0 0 (MQ below (hs_Q0 hs_tvi X ad A r τ) args s 0 0 A) (F0 m 127 ls []) := by
  obtain ⟨hx, hb, hml, hr, hts, hown, hlk, hnm, hV, hA0, hA⟩ := id C
  have hown : s.vm.findClass RX8 = some m.cls := hown
  have hK := hV.1
  have hNw := hV.2.1
  unfold fX8_readsStep_127 at hf
  refine lv_aload_n hx hb dX8_readsStep_127 rfl (lv_at hl 0 rfl) ?_
  refine lv_dup hx hb dX8_readsStep_128 rfl ?_
  obtain ⟨v10, h9, hf⟩ := hs_bi hf
  refine x_getI hx hb hts inX8_readsStep_X8 hown hK hB (by decide) rfl (k := 8) (by decide) rfl h9 (hts _ lkX8_readsStep_0) (fun _ h9 => h9) dX8_readsStep_129 ?_
  refine lv_iconst (v := 1) hx hb dX8_readsStep_132 (by decide) ?_
  refine lv_iadd hx hb dX8_readsStep_133 ?_
  obtain ⟨σ12, h11, hf⟩ := hs_bi hf
  refine x_putI hx hb hts inX8_readsStep_X8 tyX8_ok nmX8 hown hK hB hS (by decide) rfl (k := 8) (by decide) rfl h11 (hts _ lkX8_readsStep_0) (fun _ h9 => h9) rfl (by decide +kernel) dX8_readsStep_134 (fun H locs hB hS => ?_)
  refine lv_iload hx hb dX8_readsStep_137 (lv_at hl 3 rfl) ?_
  refine lv_if_eq (tgt := 166) hx hb dX8_readsStep_139 (by decide) (fun h13 => ?_) (fun h13 => ?_)
  · have hf := hs_tt h13 hf
    exact wX8_readsStep_166 fu C hem σ12 x0 x1 x2 x5 hf hB hS (lv_sub hl [0, 1, 2, 4] rfl)
  · have hf := hs_ff h13 hf
    refine lv_aload_n hx hb dX8_readsStep_142 rfl (lv_at hl 0 rfl) ?_
    obtain ⟨_, h40, hf⟩ := hs_bi hf
    obtain ⟨v41, σ39, h38, hf⟩ := hs_b2i hf
    refine hs_call0 (va_runV (As := []) (rest := []) ⟨hx, hb, hml, hown, hts⟩ (ctX8_isDigit l fu σ12 x0 X ad H.size _ _ h38) (cwV 0 hts gX8_readsStep_X8_isDigit rfl rfl rfl (by decide +kernel) ⟨Nat.le_of_ble_eq_true rfl, Nat.le_of_ble_eq_true rfl⟩) (hs_preV (hs_recv hK hB (hs_ck_i h40) (by decide) rfl) hV hB hS hA0 hA hem) rfl rfl hl.1 rfl (lv_room (Nat.le_of_ble_eq_true rfl)) dX8_readsStep_143 ⟨Nat.le_of_ble_eq_true rfl, Nat.le_of_ble_eq_true rfl⟩) hB hS hA rfl (fun H locs hB hS => ?_)
    refine lv_if_eq (tgt := 158) hx hb dX8_readsStep_146 (by decide) (fun h42 => ?_) (fun h42 => ?_)
    · have hf := hs_tt h42 hf
      refine lv_iconst (v := 0) hx hb dX8_readsStep_158 (by decide) ?_
      obtain ⟨rfl, rfl⟩ := hs_ri hf
      exact hs_zret hx hb hr hlk (by decide) hB hS dX8_readsStep_159
    · have hf := hs_ff h42 hf
      refine lv_aload_n hx hb dX8_readsStep_149 rfl (lv_at hl 0 rfl) ?_
      obtain ⟨_, h45, hf⟩ := hs_bi hf
      obtain ⟨v46, σ44, h43, hf⟩ := hs_b2i hf
      refine hs_call0 (va_runV (As := []) (rest := []) ⟨hx, hb, hml, hown, hts⟩ (ctX8_sign l fu σ39 x0 X ad H.size _ _ h43) (cwV 0 hts gX8_readsStep_X8_sign rfl rfl rfl (by decide +kernel) ⟨Nat.le_of_ble_eq_true rfl, Nat.le_of_ble_eq_true rfl⟩) (hs_preV (hs_recv hK hB (hs_ck_i h45) (by decide) rfl) hV hB hS hA0 hA hem) rfl rfl hl.1 rfl (lv_room (Nat.le_of_ble_eq_true rfl)) dX8_readsStep_150 ⟨Nat.le_of_ble_eq_true rfl, Nat.le_of_ble_eq_true rfl⟩) hB hS hA rfl (fun H locs hB hS => ?_)
      refine lv_bipush (v := 55) hx hb dX8_readsStep_153 (by decide) ?_
      refine lv_icmp_le (tgt := 160) hx hb dX8_readsStep_155 (by decide) (fun h47 => ?_) (fun h47 => ?_)
      · have hf := hs_tt h47 hf
        refine lv_aload_n hx hb dX8_readsStep_160 rfl (lv_at hl 0 rfl) ?_
        refine lv_iconst (v := 1) hx hb dX8_readsStep_161 (by decide) ?_
        obtain ⟨_, h50, hf⟩ := hs_bi hf
        obtain ⟨v51, σ49, h48, hf⟩ := hs_b2i hf
        refine hs_call0 (va_runV (As := [.int 1]) (rest := []) ⟨hx, hb, hml, hown, hts⟩ (ctX8_digits l fu σ44 x0 1 X ad H.size _ _ h48) (cwV 1 hts gX8_readsStep_X8_digits rfl rfl rfl (by decide +kernel) ⟨Nat.le_of_ble_eq_true rfl, Nat.le_of_ble_eq_true rfl⟩) (hs_preV (hs_recv hK hB (hs_ck_i h50) (by decide) rfl) hV hB hS hA0 hA hem) rfl rfl hl.1 rfl (lv_room (Nat.le_of_ble_eq_true rfl)) dX8_readsStep_162 ⟨Nat.le_of_ble_eq_true rfl, Nat.le_of_ble_eq_true rfl⟩) hB hS hA rfl (fun H locs hB hS => ?_)
        refine lv_istore_n (lv' := [(2, .int v51), (0, .ref (ad x0)), (1, .int x1), (4, .int x4), (5, .int x5)]) hx hb dX8_readsStep_165 rfl hl (by decide) rfl (fun ls hl => ?_)
        exact wX8_readsStep_166 fu C hem σ49 x0 x1 v51 x5 hf hB hS (lv_sub hl [1, 2, 0, 4] rfl)
      · have hf := hs_ff h47 hf
        refine lv_iconst (v := 0) hx hb dX8_readsStep_158 (by decide) ?_
        obtain ⟨rfl, rfl⟩ := hs_ri hf
        exact hs_zret hx hb hr hlk (by decide) hB hS dX8_readsStep_159
set_option maxRecDepth 100000 in
set_option maxHeartbeats 4000000 in
theorem wX8_readsStep_103 (fu : Nat) (C : hs_Cx p s m args meth c X A yX8_readsStep cX8_readsStep 6 (some .boolean) wsX8_readsStep) (hem : ad hs_em = X.2.2.1.2.2.2)  {H : Heap} {locs : List Loc} {ls : Array Slot} (σ : hs_T) (x0 : Nat) (x1 : Int32) (x2 : Int32) (x3 : Int32) (x4 : Int32) (y0 : Int32) (hf : fX8_readsStep_103 fu  σ x0 x1 x2 x3 x4 y0 = some (r, τ)) (hB : hs_H X.1 X.2.1 ad A σ H) (hS : va_S A s.heap H locs) (hl : lv_has ls 6 [(0, .ref (ad x0)), (1, .int x1), (2, .int x2), (3, .int x3), (4, .int x4)]) : W p l e rmX8_readsStep s m args below meth c H locs 0 0 (MQ below (hs_Q0 hs_tvi X ad A r τ) args s 0 0 A) (F0 m 103 ls [.int y0]) := by
  obtain ⟨hx, hb, hml, hr, hts, hown, hlk, hnm, hV, hA0, hA⟩ := id C
  have hown : s.vm.findClass RX8 = some m.cls := hown
  have hK := hV.1
  have hNw := hV.2.1
  unfold fX8_readsStep_103 at hf
  refine lv_istore (lv' := [(5, .int y0), (0, .ref (ad x0)), (1, .int x1), (2, .int x2), (3, .int x3), (4, .int x4)]) hx hb dX8_readsStep_103 hl (by decide) rfl (fun ls hl => ?_)
  refine lv_iload_n hx hb dX8_readsStep_105 rfl (lv_at hl 4 rfl) ?_
  refine lv_if_ne (tgt := 127) hx hb dX8_readsStep_106 (by decide) (fun h8 => ?_) (fun h8 => ?_)
  · have hf := hs_ff h8 hf
    exact wX8_readsStep_127 fu C hem σ x0 x1 x2 x4 y0 hf hB hS (lv_sub hl [1, 2, 3, 5, 0] rfl)
  · have hf := hs_tt h8 hf
    refine lv_iload hx hb dX8_readsStep_109 (lv_at hl 5 rfl) ?_
    refine lv_if_ne (tgt := 127) hx hb dX8_readsStep_111 (by decide) (fun h52 => ?_) (fun h52 => ?_)
    · have hf := hs_ff h52 hf
      exact wX8_readsStep_127 fu C hem σ x0 x1 x2 x4 y0 hf hB hS (lv_sub hl [1, 2, 3, 5, 0] rfl)
    · have hf := hs_tt h52 hf
      refine lv_iload hx hb dX8_readsStep_114 (lv_at hl 0 rfl) ?_
      refine lv_if_ne (tgt := 127) hx hb dX8_readsStep_116 (by decide) (fun h53 => ?_) (fun h53 => ?_)
      · have hf := hs_ff h53 hf
        exact wX8_readsStep_127 fu C hem σ x0 x1 x2 x4 y0 hf hB hS (lv_sub hl [1, 2, 3, 5, 0] rfl)
      · have hf := hs_tt h53 hf
        refine lv_iload_n hx hb dX8_readsStep_119 rfl (lv_at hl 2 rfl) ?_
        refine lv_bipush (v := 112) hx hb dX8_readsStep_120 (by decide) ?_
        refine lv_icmp_eq (tgt := 127) hx hb dX8_readsStep_122 (by decide) (fun h54 => ?_) (fun h54 => ?_)
        · have hf := hs_tt h54 hf
          exact wX8_readsStep_127 fu C hem σ x0 x1 x2 x4 y0 hf hB hS (lv_sub hl [1, 2, 3, 5, 0] rfl)
        · have hf := hs_ff h54 hf
          refine lv_iconst (v := 0) hx hb dX8_readsStep_125 (by decide) ?_
          obtain ⟨rfl, rfl⟩ := hs_ri hf
          exact hs_zret hx hb hr hlk (by decide) hB hS dX8_readsStep_126
set_option maxRecDepth 100000 in
set_option maxHeartbeats 4000000 in
theorem wX8_readsStep_98 (fu : Nat) (C : hs_Cx p s m args meth c X A yX8_readsStep cX8_readsStep 6 (some .boolean) wsX8_readsStep) (hem : ad hs_em = X.2.2.1.2.2.2)  {H : Heap} {locs : List Loc} {ls : Array Slot} (σ : hs_T) (x0 : Nat) (x1 : Int32) (x2 : Int32) (x3 : Int32) (x4 : Int32) (hf : fX8_readsStep_98 fu  σ x0 x1 x2 x3 x4 = some (r, τ)) (hB : hs_H X.1 X.2.1 ad A σ H) (hS : va_S A s.heap H locs) (hl : lv_has ls 6 [(0, .ref (ad x0)), (1, .int x1), (2, .int x2), (3, .int x3), (4, .int x4)]) : W p l e rmX8_readsStep s m args below meth c H locs 0 0 (MQ below (hs_Q0 hs_tvi X ad A r τ) args s 0 0 A) (F0 m 98 ls []) := by
  obtain ⟨hx, hb, hml, hr, hts, hown, hlk, hnm, hV, hA0, hA⟩ := id C
  have hown : s.vm.findClass RX8 = some m.cls := hown
  have hK := hV.1
  have hNw := hV.2.1
  unfold fX8_readsStep_98 at hf
  refine lv_iconst (v := 1) hx hb dX8_readsStep_98 (by decide) ?_
  refine lv_goto (tgt := 103) hx hb dX8_readsStep_99 (by decide) ?_
  exact wX8_readsStep_103 fu C hem σ x0 x1 x2 x3 x4 1 hf hB hS hl
set_option maxRecDepth 100000 in
set_option maxHeartbeats 4000000 in
theorem wX8_readsStep_84 (fu : Nat) (C : hs_Cx p s m args meth c X A yX8_readsStep cX8_readsStep 6 (some .boolean) wsX8_readsStep) (hem : ad hs_em = X.2.2.1.2.2.2)  {H : Heap} {locs : List Loc} {ls : Array Slot} (σ : hs_T) (x0 : Nat) (x1 : Int32) (x2 : Int32) (x3 : Int32) (y0 : Int32) (hf : fX8_readsStep_84 fu  σ x0 x1 x2 x3 y0 = some (r, τ)) (hB : hs_H X.1 X.2.1 ad A σ H) (hS : va_S A s.heap H locs) (hl : lv_has ls 6 [(0, .ref (ad x0)), (1, .int x1), (2, .int x2), (3, .int x3)]) : W p l e rmX8_readsStep s m args below meth c H locs 0 0 (MQ below (hs_Q0 hs_tvi X ad A r τ) args s 0 0 A) (F0 m 84 ls [.int y0]) := by
  obtain ⟨hx, hb, hml, hr, hts, hown, hlk, hnm, hV, hA0, hA⟩ := id C
  have hown : s.vm.findClass RX8 = some m.cls := hown
  have hK := hV.1
  have hNw := hV.2.1
  unfold fX8_readsStep_84 at hf
  refine lv_istore (lv' := [(4, .int y0), (0, .ref (ad x0)), (1, .int x1), (2, .int x2), (3, .int x3)]) hx hb dX8_readsStep_84 hl (by decide) rfl (fun ls hl => ?_)
  refine lv_iload_n hx hb dX8_readsStep_86 rfl (lv_at hl 2 rfl) ?_
  refine lv_bipush (v := 106) hx hb dX8_readsStep_87 (by decide) ?_
  refine lv_icmp_eq (tgt := 98) hx hb dX8_readsStep_89 (by decide) (fun h7 => ?_) (fun h7 => ?_)
  · have hf := hs_tt h7 hf
    exact wX8_readsStep_98 fu C hem σ x0 x1 x2 x3 y0 hf hB hS (lv_sub hl [1, 2, 3, 4, 0] rfl)
  · have hf := hs_ff h7 hf
    refine lv_iload_n hx hb dX8_readsStep_92 rfl (lv_at hl 2 rfl) ?_
    refine lv_bipush (v := 103) hx hb dX8_readsStep_93 (by decide) ?_
    refine lv_icmp_ne (tgt := 102) hx hb dX8_readsStep_95 (by decide) (fun h55 => ?_) (fun h55 => ?_)
    · have hf := hs_ff h55 hf
      refine lv_iconst (v := 0) hx hb dX8_readsStep_102 (by decide) ?_
      exact wX8_readsStep_103 fu C hem σ x0 x1 x2 x3 y0 0 hf hB hS (lv_sub hl [1, 2, 3, 4, 0] rfl)
    · have hf := hs_tt h55 hf
      exact wX8_readsStep_98 fu C hem σ x0 x1 x2 x3 y0 hf hB hS (lv_sub hl [1, 2, 3, 4, 0] rfl)
set_option maxRecDepth 100000 in
set_option maxHeartbeats 4000000 in
theorem wX8_readsStep_79 (fu : Nat) (C : hs_Cx p s m args meth c X A yX8_readsStep cX8_readsStep 6 (some .boolean) wsX8_readsStep) (hem : ad hs_em = X.2.2.1.2.2.2)  {H : Heap} {locs : List Loc} {ls : Array Slot} (σ : hs_T) (x0 : Nat) (x1 : Int32) (x2 : Int32) (x3 : Int32) (hf : fX8_readsStep_79 fu  σ x0 x1 x2 x3 = some (r, τ)) (hB : hs_H X.1 X.2.1 ad A σ H) (hS : va_S A s.heap H locs) (hl : lv_has ls 6 [(0, .ref (ad x0)), (1, .int x1), (2, .int x2), (3, .int x3)]) : W p l e rmX8_readsStep s m args below meth c H locs 0 0 (MQ below (hs_Q0 hs_tvi X ad A r τ) args s 0 0 A) (F0 m 79 ls []) := by
  obtain ⟨hx, hb, hml, hr, hts, hown, hlk, hnm, hV, hA0, hA⟩ := id C
  have hown : s.vm.findClass RX8 = some m.cls := hown
  have hK := hV.1
  have hNw := hV.2.1
  unfold fX8_readsStep_79 at hf
  refine lv_iconst (v := 1) hx hb dX8_readsStep_79 (by decide) ?_
  refine lv_goto (tgt := 84) hx hb dX8_readsStep_80 (by decide) ?_
  exact wX8_readsStep_84 fu C hem σ x0 x1 x2 x3 1 hf hB hS hl
set_option maxRecDepth 100000 in
set_option maxHeartbeats 4000000 in
theorem wX8_readsStep_66 (fu : Nat) (C : hs_Cx p s m args meth c X A yX8_readsStep cX8_readsStep 6 (some .boolean) wsX8_readsStep) (hem : ad hs_em = X.2.2.1.2.2.2)  {H : Heap} {locs : List Loc} {ls : Array Slot} (σ : hs_T) (x0 : Nat) (x1 : Int32) (x2 : Int32) (y0 : Int32) (hf : fX8_readsStep_66 fu  σ x0 x1 x2 y0 = some (r, τ)) (hB : hs_H X.1 X.2.1 ad A σ H) (hS : va_S A s.heap H locs) (hl : lv_has ls 6 [(0, .ref (ad x0)), (1, .int x1), (2, .int x2)]) : W p l e rmX8_readsStep s m args below meth c H locs 0 0 (MQ below (hs_Q0 hs_tvi X ad A r τ) args s 0 0 A) (F0 m 66 ls [.int y0]) := by
  obtain ⟨hx, hb, hml, hr, hts, hown, hlk, hnm, hV, hA0, hA⟩ := id C
  have hown : s.vm.findClass RX8 = some m.cls := hown
  have hK := hV.1
  have hNw := hV.2.1
  unfold fX8_readsStep_66 at hf
  refine lv_istore_n (lv' := [(3, .int y0), (0, .ref (ad x0)), (1, .int x1), (2, .int x2)]) hx hb dX8_readsStep_66 rfl hl (by decide) rfl (fun ls hl => ?_)
  refine lv_iload_n hx hb dX8_readsStep_67 rfl (lv_at hl 2 rfl) ?_
  refine lv_bipush (v := 108) hx hb dX8_readsStep_68 (by decide) ?_
  refine lv_icmp_eq (tgt := 79) hx hb dX8_readsStep_70 (by decide) (fun h6 => ?_) (fun h6 => ?_)
  · have hf := hs_tt h6 hf
    exact wX8_readsStep_79 fu C hem σ x0 x1 x2 y0 hf hB hS (lv_sub hl [1, 2, 3, 0] rfl)
  · have hf := hs_ff h6 hf
    refine lv_iload_n hx hb dX8_readsStep_73 rfl (lv_at hl 2 rfl) ?_
    refine lv_bipush (v := 115) hx hb dX8_readsStep_74 (by decide) ?_
    refine lv_icmp_ne (tgt := 83) hx hb dX8_readsStep_76 (by decide) (fun h56 => ?_) (fun h56 => ?_)
    · have hf := hs_ff h56 hf
      refine lv_iconst (v := 0) hx hb dX8_readsStep_83 (by decide) ?_
      exact wX8_readsStep_84 fu C hem σ x0 x1 x2 y0 0 hf hB hS (lv_sub hl [1, 2, 3, 0] rfl)
    · have hf := hs_tt h56 hf
      exact wX8_readsStep_79 fu C hem σ x0 x1 x2 y0 hf hB hS (lv_sub hl [1, 2, 3, 0] rfl)
set_option maxRecDepth 100000 in
set_option maxHeartbeats 4000000 in
theorem wX8_readsStep_61 (fu : Nat) (C : hs_Cx p s m args meth c X A yX8_readsStep cX8_readsStep 6 (some .boolean) wsX8_readsStep) (hem : ad hs_em = X.2.2.1.2.2.2)  {H : Heap} {locs : List Loc} {ls : Array Slot} (σ : hs_T) (x0 : Nat) (x1 : Int32) (x2 : Int32) (hf : fX8_readsStep_61 fu  σ x0 x1 x2 = some (r, τ)) (hB : hs_H X.1 X.2.1 ad A σ H) (hS : va_S A s.heap H locs) (hl : lv_has ls 6 [(0, .ref (ad x0)), (1, .int x1), (2, .int x2)]) : W p l e rmX8_readsStep s m args below meth c H locs 0 0 (MQ below (hs_Q0 hs_tvi X ad A r τ) args s 0 0 A) (F0 m 61 ls []) := by
  obtain ⟨hx, hb, hml, hr, hts, hown, hlk, hnm, hV, hA0, hA⟩ := id C
  have hown : s.vm.findClass RX8 = some m.cls := hown
  have hK := hV.1
  have hNw := hV.2.1
  unfold fX8_readsStep_61 at hf
  refine lv_iconst (v := 1) hx hb dX8_readsStep_61 (by decide) ?_
  refine lv_goto (tgt := 66) hx hb dX8_readsStep_62 (by decide) ?_
  exact wX8_readsStep_66 fu C hem σ x0 x1 x2 1 hf hB hS hl
set_option maxRecDepth 100000 in
set_option maxHeartbeats 4000000 in
theorem wX8_readsStep_e (fu : Nat) (C : hs_Cx p s m args meth c X A yX8_readsStep cX8_readsStep 6 (some .boolean) wsX8_readsStep) (hem : ad hs_em = X.2.2.1.2.2.2) {H : Heap} {locs : List Loc} {ls : Array Slot} (σ : hs_T) (o : Nat) (hf : fX8_readsStep fu σ o = some (r, τ)) (hB : hs_H X.1 X.2.1 ad A σ H) (hS : va_S A s.heap H locs) (hl : lv_has ls 6 [(0, .ref (ad o))]) : W p l e rmX8_readsStep s m args below meth c H locs 0 0 (MQ below (hs_Q0 hs_tvi X ad A r τ) args s 0 0 A) (F0 m 0 ls []) := by
  obtain ⟨hx, hb, hml, hr, hts, hown, hlk, hnm, hV, hA0, hA⟩ := id C
  have hown : s.vm.findClass RX8 = some m.cls := hown
  have hK := hV.1
  have hNw := hV.2.1
  unfold fX8_readsStep at hf
  refine lv_aload_n hx hb dX8_readsStep_0 rfl (lv_at hl 0 rfl) ?_
  obtain ⟨_, h3, hf⟩ := hs_bi hf
  obtain ⟨v4, σ2, h1, hf⟩ := hs_b2i hf
  refine hs_call0 (va_runV (As := []) (rest := []) ⟨hx, hb, hml, hown, hts⟩ (ctX8_sign l fu σ o X ad H.size _ _ h1) (cwV 0 hts gX8_readsStep_X8_sign rfl rfl rfl (by decide +kernel) ⟨Nat.le_of_ble_eq_true rfl, Nat.le_of_ble_eq_true rfl⟩) (hs_preV (hs_recv hK hB (hs_ck_i h3) (by decide) rfl) hV hB hS hA0 hA hem) rfl rfl hl.1 rfl (lv_room (Nat.le_of_ble_eq_true rfl)) dX8_readsStep_1 ⟨Nat.le_of_ble_eq_true rfl, Nat.le_of_ble_eq_true rfl⟩) hB hS hA rfl (fun H locs hB hS => ?_)
  refine lv_istore_n (lv' := [(1, .int v4), (0, .ref (ad o))]) hx hb dX8_readsStep_4 rfl hl (by decide) rfl (fun ls hl => ?_)
  refine lv_iconst (v := 0) hx hb dX8_readsStep_5 (by decide) ?_
  refine lv_istore_n (lv' := [(2, .int 0), (1, .int v4), (0, .ref (ad o))]) hx hb dX8_readsStep_6 rfl hl (by decide) rfl (fun ls hl => ?_)
  refine lv_iload_n hx hb dX8_readsStep_7 rfl (lv_at hl 1 rfl) ?_
  refine lv_bipush (v := 97) hx hb dX8_readsStep_8 (by decide) ?_
  refine lv_icmp_eq (tgt := 61) hx hb dX8_readsStep_10 (by decide) (fun h5 => ?_) (fun h5 => ?_)
  · have hf := hs_tt h5 hf
    exact wX8_readsStep_61 fu C hem σ2 o v4 0 hf hB hS (lv_sub hl [2, 1, 0] rfl)
  · have hf := hs_ff h5 hf
    refine lv_iload_n hx hb dX8_readsStep_13 rfl (lv_at hl 1 rfl) ?_
    refine lv_bipush (v := 98) hx hb dX8_readsStep_14 (by decide) ?_
    refine lv_icmp_eq (tgt := 61) hx hb dX8_readsStep_16 (by decide) (fun h57 => ?_) (fun h57 => ?_)
    · have hf := hs_tt h57 hf
      exact wX8_readsStep_61 fu C hem σ2 o v4 0 hf hB hS (lv_sub hl [2, 1, 0] rfl)
    · have hf := hs_ff h57 hf
      refine lv_iload_n hx hb dX8_readsStep_19 rfl (lv_at hl 1 rfl) ?_
      refine lv_bipush (v := 43) hx hb dX8_readsStep_20 (by decide) ?_
      refine lv_icmp_eq (tgt := 61) hx hb dX8_readsStep_22 (by decide) (fun h58 => ?_) (fun h58 => ?_)
      · have hf := hs_tt h58 hf
        exact wX8_readsStep_61 fu C hem σ2 o v4 0 hf hB hS (lv_sub hl [2, 1, 0] rfl)
      · have hf := hs_ff h58 hf
        refine lv_iload_n hx hb dX8_readsStep_25 rfl (lv_at hl 1 rfl) ?_
        refine lv_bipush (v := 45) hx hb dX8_readsStep_26 (by decide) ?_
        refine lv_icmp_eq (tgt := 61) hx hb dX8_readsStep_28 (by decide) (fun h59 => ?_) (fun h59 => ?_)
        · have hf := hs_tt h59 hf
          exact wX8_readsStep_61 fu C hem σ2 o v4 0 hf hB hS (lv_sub hl [2, 1, 0] rfl)
        · have hf := hs_ff h59 hf
          refine lv_iload_n hx hb dX8_readsStep_31 rfl (lv_at hl 1 rfl) ?_
          refine lv_bipush (v := 42) hx hb dX8_readsStep_32 (by decide) ?_
          refine lv_icmp_eq (tgt := 61) hx hb dX8_readsStep_34 (by decide) (fun h60 => ?_) (fun h60 => ?_)
          · have hf := hs_tt h60 hf
            exact wX8_readsStep_61 fu C hem σ2 o v4 0 hf hB hS (lv_sub hl [2, 1, 0] rfl)
          · have hf := hs_ff h60 hf
            refine lv_iload_n hx hb dX8_readsStep_37 rfl (lv_at hl 1 rfl) ?_
            refine lv_bipush (v := 61) hx hb dX8_readsStep_38 (by decide) ?_
            refine lv_icmp_eq (tgt := 61) hx hb dX8_readsStep_40 (by decide) (fun h61 => ?_) (fun h61 => ?_)
            · have hf := hs_tt h61 hf
              exact wX8_readsStep_61 fu C hem σ2 o v4 0 hf hB hS (lv_sub hl [2, 1, 0] rfl)
            · have hf := hs_ff h61 hf
              refine lv_iload_n hx hb dX8_readsStep_43 rfl (lv_at hl 1 rfl) ?_
              refine lv_bipush (v := 60) hx hb dX8_readsStep_44 (by decide) ?_
              refine lv_icmp_eq (tgt := 61) hx hb dX8_readsStep_46 (by decide) (fun h62 => ?_) (fun h62 => ?_)
              · have hf := hs_tt h62 hf
                exact wX8_readsStep_61 fu C hem σ2 o v4 0 hf hB hS (lv_sub hl [2, 1, 0] rfl)
              · have hf := hs_ff h62 hf
                refine lv_iload_n hx hb dX8_readsStep_49 rfl (lv_at hl 1 rfl) ?_
                refine lv_bipush (v := 111) hx hb dX8_readsStep_50 (by decide) ?_
                refine lv_icmp_eq (tgt := 61) hx hb dX8_readsStep_52 (by decide) (fun h63 => ?_) (fun h63 => ?_)
                · have hf := hs_tt h63 hf
                  exact wX8_readsStep_61 fu C hem σ2 o v4 0 hf hB hS (lv_sub hl [2, 1, 0] rfl)
                · have hf := hs_ff h63 hf
                  refine lv_iload_n hx hb dX8_readsStep_55 rfl (lv_at hl 1 rfl) ?_
                  refine lv_bipush (v := 104) hx hb dX8_readsStep_56 (by decide) ?_
                  refine lv_icmp_ne (tgt := 65) hx hb dX8_readsStep_58 (by decide) (fun h64 => ?_) (fun h64 => ?_)
                  · have hf := hs_ff h64 hf
                    refine lv_iconst (v := 0) hx hb dX8_readsStep_65 (by decide) ?_
                    exact wX8_readsStep_66 fu C hem σ2 o v4 0 0 hf hB hS (lv_sub hl [2, 1, 0] rfl)
                  · have hf := hs_tt h64 hf
                    exact wX8_readsStep_61 fu C hem σ2 o v4 0 hf hB hS (lv_sub hl [2, 1, 0] rfl)
end SX8_readsStep
set_option maxRecDepth 100000 in
theorem ctX8_readsStep (l : Launch) (fu : Nat) (σ : hs_T) (o : Nat) : hs_C0 hs_tvi l yX8_readsStep wsX8_readsStep rmX8_readsStep (fun ad => [.ref (ad o)]) σ (fX8_readsStep fu σ o) := by
  intro X ad sz r τ hf
  refine hs_enter (cc := cX8_readsStep) (maxL := 6) (ret := (some .boolean)) (by decide) rfl (Nat.le_of_ble_eq_true rfl) ?_
  intro p e s m below meth c ls C hl hem hB hS hsz
  exact wX8_readsStep_e fu C hem σ o hf hB hS hl
/-! ServiceGameModel.fault()I -/
abbrev rmX8_fault : Room := { frames := 4, cells := 0, slots := 0, locals := 88 }
theorem inX8_fault_X8 : ∀ w ∈ wsX80, w ∈ wsX8_fault := fun _ h => List.mem_cons_of_mem _ (List.mem_append_right _ h)
theorem lkX8_fault_0 : Cond.fieldLink RX8 128 "ServiceGameModel" "at" "I" ∈ wsX8_fault := by decide +kernel
theorem lkX8_fault_1 : Cond.fieldLink RX8 143 "ServiceGameModel" "readMany" "I" ∈ wsX8_fault := by decide +kernel
theorem lkX8_fault_2 : Cond.fieldLink RX8 26 "ServiceGameModel" "readStep" "[I" ∈ wsX8_fault := by decide +kernel
theorem lkX8_fault_3 : Cond.fieldLink RX8 29 "ServiceGameModel" "readNumber" "[I" ∈ wsX8_fault := by decide +kernel
def fX8_fault_51 (fu : Nat)  (σ : hs_T) (x0 : Nat) : Option (Int32 × hs_T) :=
 (hs_gI σ 10 x0 8).bind fun v21 =>
 some (v21, σ)
def fX8_fault_101 (fu : Nat) (k71 : hs_T → Nat → Int32 → Option (Int32 × hs_T)) (σ : hs_T) (x0 : Nat) (x1 : Int32) : Option (Int32 × hs_T) :=
 (hs_gN σ 10 x0 10).bind fun n38 =>
 (hs_ld σ 11 n38 x1).bind fun v39 =>
 (hs_gI σ 10 x0 11).bind fun v42 =>
 if v39 < v42 then
 (k71 σ x0 (x1 + 1))
 else
 (some ((200 + x1), σ))
def fX8_fault_71b (fu : Nat)  (k71 : hs_T → Nat → Int32 → Option (Int32 × hs_T)) (σ : hs_T) (x0 : Nat) (x1 : Int32) : Option (Int32 × hs_T) :=
 (hs_gI σ 10 x0 11).bind fun v30 =>
 if v30 ≤ x1 then
 (some ((-1), σ))
 else
 ((hs_gN σ 10 x0 9).bind fun n33 =>
 (hs_ld σ 11 n33 x1).bind fun v34 =>
 if v34 = 106 then
 (fX8_fault_101 fu k71 σ x0 x1)
 else
 ((hs_gN σ 10 x0 9).bind fun n45 =>
 (hs_ld σ 11 n45 x1).bind fun v46 =>
 if v46 = 103 then
 (fX8_fault_101 fu k71 σ x0 x1)
 else
 (k71 σ x0 (x1 + 1))))
def fX8_fault_71 (fu : Nat)  (σ : hs_T) (x0 : Nat) (x1 : Int32) : Option (Int32 × hs_T) :=
   hs_lp (fun (k : hs_T × Nat × Int32 → Option (Int32 × hs_T)) (a : hs_T × Nat × Int32) => fX8_fault_71b fu  (fun σ x0 x1 => k (σ, x0, x1)) a.1 a.2.1 a.2.2) fu (σ, x0, x1)
def fX8_fault_10b (fu : Nat)  (k10 : hs_T → Nat → Option (Int32 × hs_T)) (σ : hs_T) (x0 : Nat) : Option (Int32 × hs_T) :=
 (hs_ck σ 10 x0).bind fun _ =>
 hs_b2 (fX8_readsStep fu σ x0) fun v8 σ6 =>
 if v8 = 0 then
 ((hs_gI σ6 10 x0 8).bind fun v50 =>
 some (v50, σ6))
 else
 ((hs_ck σ6 10 x0).bind fun _ =>
 hs_b2 (fX8_sign fu σ6 x0) fun v13 σ11 =>
 if v13 = (-1) then
 (fX8_fault_71 fu σ11 x0 0)
 else
 ((hs_ck σ11 10 x0).bind fun _ =>
 hs_b2 (fX8_sign fu σ11 x0) fun v18 σ16 =>
 if v18 = 59 then
 ((hs_gI σ16 10 x0 11).bind fun v23 =>
 if v23 = 24 then
 (fX8_fault_51 fu σ16 x0)
 else
 ((hs_gI σ16 10 x0 8).bind fun v26 =>
 (hs_pI σ16 10 x0 8 (v26 + 1)).bind fun σ28 =>
 k10 σ28 x0))
 else
 (fX8_fault_51 fu σ16 x0)))
def fX8_fault_10 (fu : Nat)  (σ : hs_T) (x0 : Nat) : Option (Int32 × hs_T) :=
   hs_lp (fun (k : hs_T × Nat → Option (Int32 × hs_T)) (a : hs_T × Nat) => fX8_fault_10b fu  (fun σ x0 => k (σ, x0)) a.1 a.2) fu (σ, x0)
def fX8_fault (fu : Nat) (σ : hs_T) (o : Nat) : Option (Int32 × hs_T) :=
 (hs_pI σ 10 o 8 0).bind fun σ2 =>
 (hs_pI σ2 10 o 11 0).bind fun σ4 =>
 fX8_fault_10 fu σ4 o
section SX8_fault
variable {p : Program} {l : Launch} {e : Env} {s : State} {m : MethodId} {args : Array Value} {below : List Frame} {meth : Method} {c : Code} {X : hs_X} {ad : Nat → Nat} {A : Nat → Prop} {r : Int32} {τ : hs_T}
set_option maxRecDepth 100000 in
set_option maxHeartbeats 4000000 in
theorem wX8_fault_51 (fu : Nat) (C : hs_Cx p s m args meth c X A yX8_fault cX8_fault 2 (some .int) wsX8_fault) (hem : ad hs_em = X.2.2.1.2.2.2)  {H : Heap} {locs : List Loc} {ls : Array Slot} (σ : hs_T) (x0 : Nat) (hf : fX8_fault_51 fu  σ x0 = some (r, τ)) (hB : hs_H X.1 X.2.1 ad A σ H) (hS : va_S A s.heap H locs) (hl : lv_has ls 2 [(0, .ref (ad x0))]) : W p l e rmX8_fault s m args below meth c H locs 0 0 (MQ below (hs_Q0 hs_tvi X ad A r τ) args s 0 0 A) (F0 m 51 ls []) := by
  obtain ⟨hx, hb, hml, hr, hts, hown, hlk, hnm, hV, hA0, hA⟩ := id C
  have hown : s.vm.findClass RX8 = some m.cls := hown
  have hK := hV.1
  have hNw := hV.2.1
  unfold fX8_fault_51 at hf
  refine lv_aload_n hx hb dX8_fault_51 rfl (lv_at hl 0 rfl) ?_
  obtain ⟨v21, h20, hf⟩ := hs_bi hf
  refine x_getI hx hb hts inX8_fault_X8 hown hK hB (by decide) rfl (k := 8) (by decide) rfl h20 (hts _ lkX8_fault_0) (fun _ h9 => h9) dX8_fault_52 ?_
  obtain ⟨rfl, rfl⟩ := hs_ri hf
  exact hs_iret hx hb hr hlk hB hS dX8_fault_55
set_option maxRecDepth 100000 in
set_option maxHeartbeats 4000000 in
theorem wX8_fault_101 (fu : Nat) (C : hs_Cx p s m args meth c X A yX8_fault cX8_fault 2 (some .int) wsX8_fault) (hem : ad hs_em = X.2.2.1.2.2.2) (k71 : hs_T → Nat → Int32 → Option (Int32 × hs_T)) (hk71 : ∀ (σ : hs_T) (x0 : Nat) (x1 : Int32) (H : Heap) (locs : List Loc) (ls : Array Slot), k71 σ x0 x1 = some (r, τ) → hs_H X.1 X.2.1 ad A σ H → va_S A s.heap H locs → lv_has ls 2 [(0, .ref (ad x0)), (1, .int x1)] → W p l e rmX8_fault s m args below meth c H locs 0 0 (MQ below (hs_Q0 hs_tvi X ad A r τ) args s 0 0 A) (F0 m 71 ls [])) {H : Heap} {locs : List Loc} {ls : Array Slot} (σ : hs_T) (x0 : Nat) (x1 : Int32) (hf : fX8_fault_101 fu k71 σ x0 x1 = some (r, τ)) (hB : hs_H X.1 X.2.1 ad A σ H) (hS : va_S A s.heap H locs) (hl : lv_has ls 2 [(0, .ref (ad x0)), (1, .int x1)]) : W p l e rmX8_fault s m args below meth c H locs 0 0 (MQ below (hs_Q0 hs_tvi X ad A r τ) args s 0 0 A) (F0 m 101 ls []) := by
  obtain ⟨hx, hb, hml, hr, hts, hown, hlk, hnm, hV, hA0, hA⟩ := id C
  have hown : s.vm.findClass RX8 = some m.cls := hown
  have hK := hV.1
  have hNw := hV.2.1
  unfold fX8_fault_101 at hf
  refine lv_aload_n hx hb dX8_fault_101 rfl (lv_at hl 0 rfl) ?_
  obtain ⟨n38, h37, hf⟩ := hs_bi hf
  refine x_getN hx hb hts inX8_fault_X8 hown hK hB (by decide) rfl (k := 10) (by decide) rfl h37 (hts _ lkX8_fault_3) (fun _ h9 => h9) dX8_fault_102 ?_
  refine lv_iload_n hx hb dX8_fault_105 rfl (lv_at hl 1 rfl) ?_
  obtain ⟨v39, h40, hf⟩ := hs_bi hf
  refine x_iald hx hb hK hB h40 dX8_fault_106 ?_
  refine lv_aload_n hx hb dX8_fault_107 rfl (lv_at hl 0 rfl) ?_
  obtain ⟨v42, h41, hf⟩ := hs_bi hf
  refine x_getI hx hb hts inX8_fault_X8 hown hK hB (by decide) rfl (k := 11) (by decide) rfl h41 (hts _ lkX8_fault_1) (fun _ h9 => h9) dX8_fault_108 ?_
  refine lv_icmp_lt (tgt := 120) hx hb dX8_fault_111 (by decide) (fun h43 => ?_) (fun h43 => ?_)
  · have hf := hs_tt h43 hf
    refine lv_iinc (v := (x1 + 1)) (lv' := [(1, .int (x1 + 1)), (0, .ref (ad x0))]) hx hb dX8_fault_120 hl (k := 1) rfl rfl (by decide) rfl (fun ls hl => ?_)
    refine lv_goto (tgt := 71) hx hb dX8_fault_123 (by decide) ?_
    exact hk71 σ x0 (x1 + 1) _ _ _ hf hB hS (lv_sub hl [1, 0] rfl)
  · have hf := hs_ff h43 hf
    refine lv_sipush (v := 200) hx hb dX8_fault_114 (by decide) ?_
    refine lv_iload_n hx hb dX8_fault_117 rfl (lv_at hl 1 rfl) ?_
    refine lv_iadd hx hb dX8_fault_118 ?_
    obtain ⟨rfl, rfl⟩ := hs_ri hf
    exact hs_iret hx hb hr hlk hB hS dX8_fault_119
set_option maxRecDepth 100000 in
set_option maxHeartbeats 4000000 in
theorem wX8_fault_71b (fu : Nat) (C : hs_Cx p s m args meth c X A yX8_fault cX8_fault 2 (some .int) wsX8_fault) (hem : ad hs_em = X.2.2.1.2.2.2)  (k71 : hs_T → Nat → Int32 → Option (Int32 × hs_T)) (hk71 : ∀ (σ : hs_T) (x0 : Nat) (x1 : Int32) (H : Heap) (locs : List Loc) (ls : Array Slot), k71 σ x0 x1 = some (r, τ) → hs_H X.1 X.2.1 ad A σ H → va_S A s.heap H locs → lv_has ls 2 [(0, .ref (ad x0)), (1, .int x1)] → W p l e rmX8_fault s m args below meth c H locs 0 0 (MQ below (hs_Q0 hs_tvi X ad A r τ) args s 0 0 A) (F0 m 71 ls [])) {H : Heap} {locs : List Loc} {ls : Array Slot} (σ : hs_T) (x0 : Nat) (x1 : Int32) (hf : fX8_fault_71b fu  k71 σ x0 x1 = some (r, τ)) (hB : hs_H X.1 X.2.1 ad A σ H) (hS : va_S A s.heap H locs) (hl : lv_has ls 2 [(0, .ref (ad x0)), (1, .int x1)]) : W p l e rmX8_fault s m args below meth c H locs 0 0 (MQ below (hs_Q0 hs_tvi X ad A r τ) args s 0 0 A) (F0 m 71 ls []) := by
  obtain ⟨hx, hb, hml, hr, hts, hown, hlk, hnm, hV, hA0, hA⟩ := id C
  have hown : s.vm.findClass RX8 = some m.cls := hown
  have hK := hV.1
  have hNw := hV.2.1
  unfold fX8_fault_71b at hf
  refine lv_iload_n hx hb dX8_fault_71 rfl (lv_at hl 1 rfl) ?_
  refine lv_aload_n hx hb dX8_fault_72 rfl (lv_at hl 0 rfl) ?_
  obtain ⟨v30, h29, hf⟩ := hs_bi hf
  refine x_getI hx hb hts inX8_fault_X8 hown hK hB (by decide) rfl (k := 11) (by decide) rfl h29 (hts _ lkX8_fault_1) (fun _ h9 => h9) dX8_fault_73 ?_
  refine lv_icmp_ge (tgt := 126) hx hb dX8_fault_76 (by decide) (fun h31 => ?_) (fun h31 => ?_)
  · have hf := hs_tt h31 hf
    refine lv_iconst (v := (-1)) hx hb dX8_fault_126 (by decide) ?_
    obtain ⟨rfl, rfl⟩ := hs_ri hf
    exact hs_iret hx hb hr hlk hB hS dX8_fault_127
  · have hf := hs_ff h31 hf
    refine lv_aload_n hx hb dX8_fault_79 rfl (lv_at hl 0 rfl) ?_
    obtain ⟨n33, h32, hf⟩ := hs_bi hf
    refine x_getN hx hb hts inX8_fault_X8 hown hK hB (by decide) rfl (k := 9) (by decide) rfl h32 (hts _ lkX8_fault_2) (fun _ h9 => h9) dX8_fault_80 ?_
    refine lv_iload_n hx hb dX8_fault_83 rfl (lv_at hl 1 rfl) ?_
    obtain ⟨v34, h35, hf⟩ := hs_bi hf
    refine x_iald hx hb hK hB h35 dX8_fault_84 ?_
    refine lv_bipush (v := 106) hx hb dX8_fault_85 (by decide) ?_
    refine lv_icmp_eq (tgt := 101) hx hb dX8_fault_87 (by decide) (fun h36 => ?_) (fun h36 => ?_)
    · have hf := hs_tt h36 hf
      exact wX8_fault_101 fu C hem k71 hk71 σ x0 x1 hf hB hS hl
    · have hf := hs_ff h36 hf
      refine lv_aload_n hx hb dX8_fault_90 rfl (lv_at hl 0 rfl) ?_
      obtain ⟨n45, h44, hf⟩ := hs_bi hf
      refine x_getN hx hb hts inX8_fault_X8 hown hK hB (by decide) rfl (k := 9) (by decide) rfl h44 (hts _ lkX8_fault_2) (fun _ h9 => h9) dX8_fault_91 ?_
      refine lv_iload_n hx hb dX8_fault_94 rfl (lv_at hl 1 rfl) ?_
      obtain ⟨v46, h47, hf⟩ := hs_bi hf
      refine x_iald hx hb hK hB h47 dX8_fault_95 ?_
      refine lv_bipush (v := 103) hx hb dX8_fault_96 (by decide) ?_
      refine lv_icmp_ne (tgt := 120) hx hb dX8_fault_98 (by decide) (fun h48 => ?_) (fun h48 => ?_)
      · have hf := hs_ff h48 hf
        refine lv_iinc (v := (x1 + 1)) (lv' := [(1, .int (x1 + 1)), (0, .ref (ad x0))]) hx hb dX8_fault_120 hl (k := 1) rfl rfl (by decide) rfl (fun ls hl => ?_)
        refine lv_goto (tgt := 71) hx hb dX8_fault_123 (by decide) ?_
        exact hk71 σ x0 (x1 + 1) _ _ _ hf hB hS (lv_sub hl [1, 0] rfl)
      · have hf := hs_tt h48 hf
        exact wX8_fault_101 fu C hem k71 hk71 σ x0 x1 hf hB hS hl
set_option maxRecDepth 100000 in
set_option maxHeartbeats 4000000 in
theorem wX8_fault_71 (fu : Nat) (C : hs_Cx p s m args meth c X A yX8_fault cX8_fault 2 (some .int) wsX8_fault) (hem : ad hs_em = X.2.2.1.2.2.2)  {H : Heap} {locs : List Loc} {ls : Array Slot} (σ : hs_T) (x0 : Nat) (x1 : Int32) (hf : fX8_fault_71 fu  σ x0 x1 = some (r, τ)) (hB : hs_H X.1 X.2.1 ad A σ H) (hS : va_S A s.heap H locs) (hl : lv_has ls 2 [(0, .ref (ad x0)), (1, .int x1)]) : W p l e rmX8_fault s m args below meth c H locs 0 0 (MQ below (hs_Q0 hs_tvi X ad A r τ) args s 0 0 A) (F0 m 71 ls []) := by
  unfold fX8_fault_71 at hf
  exact hs_lp_i (P := fun a => ∀ (H : Heap) (locs : List Loc) (ls : Array Slot), hs_H X.1 X.2.1 ad A a.1 H → va_S A s.heap H locs → lv_has ls 2 [(0, .ref (ad a.2.1)), (1, .int a.2.2)] → W p l e rmX8_fault s m args below meth c H locs 0 0 (MQ below (hs_Q0 hs_tvi X ad A r τ) args s 0 0 A) (F0 m 71 ls [])) (fun k a hk hf H locs ls hB hS hl => wX8_fault_71b fu C hem  _ (fun σ x0 x1 H locs ls hf hB hS hl => hk (σ, x0, x1) hf H locs ls hB hS hl) a.1 a.2.1 a.2.2 hf hB hS hl) fu (σ, x0, x1) hf H locs ls hB hS hl
set_option maxRecDepth 100000 in
set_option maxHeartbeats 4000000 in
theorem wX8_fault_10b (fu : Nat) (C : hs_Cx p s m args meth c X A yX8_fault cX8_fault 2 (some .int) wsX8_fault) (hem : ad hs_em = X.2.2.1.2.2.2)  (k10 : hs_T → Nat → Option (Int32 × hs_T)) (hk10 : ∀ (σ : hs_T) (x0 : Nat) (H : Heap) (locs : List Loc) (ls : Array Slot), k10 σ x0 = some (r, τ) → hs_H X.1 X.2.1 ad A σ H → va_S A s.heap H locs → lv_has ls 2 [(0, .ref (ad x0))] → W p l e rmX8_fault s m args below meth c H locs 0 0 (MQ below (hs_Q0 hs_tvi X ad A r τ) args s 0 0 A) (F0 m 10 ls [])) {H : Heap} {locs : List Loc} {ls : Array Slot} (σ : hs_T) (x0 : Nat) (hf : fX8_fault_10b fu  k10 σ x0 = some (r, τ)) (hB : hs_H X.1 X.2.1 ad A σ H) (hS : va_S A s.heap H locs) (hl : lv_has ls 2 [(0, .ref (ad x0))]) : W p l e rmX8_fault s m args below meth c H locs 0 0 (MQ below (hs_Q0 hs_tvi X ad A r τ) args s 0 0 A) (F0 m 10 ls []) := by
  obtain ⟨hx, hb, hml, hr, hts, hown, hlk, hnm, hV, hA0, hA⟩ := id C
  have hown : s.vm.findClass RX8 = some m.cls := hown
  have hK := hV.1
  have hNw := hV.2.1
  unfold fX8_fault_10b at hf
  refine lv_aload_n hx hb dX8_fault_10 rfl (lv_at hl 0 rfl) ?_
  obtain ⟨_, h7, hf⟩ := hs_bi hf
  obtain ⟨v8, σ6, h5, hf⟩ := hs_b2i hf
  refine hs_call0 (va_runV (As := []) (rest := []) ⟨hx, hb, hml, hown, hts⟩ (ctX8_readsStep l fu σ x0 X ad H.size _ _ h5) (cwV 0 hts gX8_fault_X8_readsStep rfl rfl rfl (by decide +kernel) ⟨Nat.le_of_ble_eq_true rfl, Nat.le_of_ble_eq_true rfl⟩) (hs_preV (hs_recv hK hB (hs_ck_i h7) (by decide) rfl) hV hB hS hA0 hA hem) rfl rfl hl.1 rfl (lv_room (Nat.le_of_ble_eq_true rfl)) dX8_fault_11 ⟨Nat.le_of_ble_eq_true rfl, Nat.le_of_ble_eq_true rfl⟩) hB hS hA rfl (fun H locs hB hS => ?_)
  refine lv_if_ne (tgt := 22) hx hb dX8_fault_14 (by decide) (fun h9 => ?_) (fun h9 => ?_)
  · have hf := hs_ff h9 hf
    refine lv_aload_n hx hb dX8_fault_22 rfl (lv_at hl 0 rfl) ?_
    obtain ⟨_, h12, hf⟩ := hs_bi hf
    obtain ⟨v13, σ11, h10, hf⟩ := hs_b2i hf
    refine hs_call0 (va_runV (As := []) (rest := []) ⟨hx, hb, hml, hown, hts⟩ (ctX8_sign l fu σ6 x0 X ad H.size _ _ h10) (cwV 0 hts gX8_fault_X8_sign rfl rfl rfl (by decide +kernel) ⟨Nat.le_of_ble_eq_true rfl, Nat.le_of_ble_eq_true rfl⟩) (hs_preV (hs_recv hK hB (hs_ck_i h12) (by decide) rfl) hV hB hS hA0 hA hem) rfl rfl hl.1 rfl (lv_room (Nat.le_of_ble_eq_true rfl)) dX8_fault_23 ⟨Nat.le_of_ble_eq_true rfl, Nat.le_of_ble_eq_true rfl⟩) hB hS hA rfl (fun H locs hB hS => ?_)
    refine lv_iconst (v := (-1)) hx hb dX8_fault_26 (by decide) ?_
    refine lv_icmp_ne (tgt := 33) hx hb dX8_fault_27 (by decide) (fun h14 => ?_) (fun h14 => ?_)
    · have hf := hs_ff h14 hf
      refine lv_aload_n hx hb dX8_fault_33 rfl (lv_at hl 0 rfl) ?_
      obtain ⟨_, h17, hf⟩ := hs_bi hf
      obtain ⟨v18, σ16, h15, hf⟩ := hs_b2i hf
      refine hs_call0 (va_runV (As := []) (rest := []) ⟨hx, hb, hml, hown, hts⟩ (ctX8_sign l fu σ11 x0 X ad H.size _ _ h15) (cwV 0 hts gX8_fault_X8_sign rfl rfl rfl (by decide +kernel) ⟨Nat.le_of_ble_eq_true rfl, Nat.le_of_ble_eq_true rfl⟩) (hs_preV (hs_recv hK hB (hs_ck_i h17) (by decide) rfl) hV hB hS hA0 hA hem) rfl rfl hl.1 rfl (lv_room (Nat.le_of_ble_eq_true rfl)) dX8_fault_34 ⟨Nat.le_of_ble_eq_true rfl, Nat.le_of_ble_eq_true rfl⟩) hB hS hA rfl (fun H locs hB hS => ?_)
      refine lv_bipush (v := 59) hx hb dX8_fault_37 (by decide) ?_
      refine lv_icmp_ne (tgt := 51) hx hb dX8_fault_39 (by decide) (fun h19 => ?_) (fun h19 => ?_)
      · have hf := hs_ff h19 hf
        exact wX8_fault_51 fu C hem σ16 x0 hf hB hS hl
      · have hf := hs_tt h19 hf
        refine lv_aload_n hx hb dX8_fault_42 rfl (lv_at hl 0 rfl) ?_
        obtain ⟨v23, h22, hf⟩ := hs_bi hf
        refine x_getI hx hb hts inX8_fault_X8 hown hK hB (by decide) rfl (k := 11) (by decide) rfl h22 (hts _ lkX8_fault_1) (fun _ h9 => h9) dX8_fault_43 ?_
        refine lv_bipush (v := 24) hx hb dX8_fault_46 (by decide) ?_
        refine lv_icmp_ne (tgt := 56) hx hb dX8_fault_48 (by decide) (fun h24 => ?_) (fun h24 => ?_)
        · have hf := hs_ff h24 hf
          refine lv_aload_n hx hb dX8_fault_56 rfl (lv_at hl 0 rfl) ?_
          refine lv_dup hx hb dX8_fault_57 rfl ?_
          obtain ⟨v26, h25, hf⟩ := hs_bi hf
          refine x_getI hx hb hts inX8_fault_X8 hown hK hB (by decide) rfl (k := 8) (by decide) rfl h25 (hts _ lkX8_fault_0) (fun _ h9 => h9) dX8_fault_58 ?_
          refine lv_iconst (v := 1) hx hb dX8_fault_61 (by decide) ?_
          refine lv_iadd hx hb dX8_fault_62 ?_
          obtain ⟨σ28, h27, hf⟩ := hs_bi hf
          refine x_putI hx hb hts inX8_fault_X8 tyX8_ok nmX8 hown hK hB hS (by decide) rfl (k := 8) (by decide) rfl h27 (hts _ lkX8_fault_0) (fun _ h9 => h9) rfl (by decide +kernel) dX8_fault_63 (fun H locs hB hS => ?_)
          refine lv_goto (tgt := 10) hx hb dX8_fault_66 (by decide) ?_
          exact hk10 σ28 x0 _ _ _ hf hB hS hl
        · have hf := hs_tt h24 hf
          exact wX8_fault_51 fu C hem σ16 x0 hf hB hS hl
    · have hf := hs_tt h14 hf
      refine lv_goto (tgt := 69) hx hb dX8_fault_30 (by decide) ?_
      refine lv_iconst (v := 0) hx hb dX8_fault_69 (by decide) ?_
      refine lv_istore_n (lv' := [(1, .int 0), (0, .ref (ad x0))]) hx hb dX8_fault_70 rfl hl (by decide) rfl (fun ls hl => ?_)
      exact wX8_fault_71 fu C hem σ11 x0 0 hf hB hS (lv_sub hl [1, 0] rfl)
  · have hf := hs_tt h9 hf
    refine lv_aload_n hx hb dX8_fault_17 rfl (lv_at hl 0 rfl) ?_
    obtain ⟨v50, h49, hf⟩ := hs_bi hf
    refine x_getI hx hb hts inX8_fault_X8 hown hK hB (by decide) rfl (k := 8) (by decide) rfl h49 (hts _ lkX8_fault_0) (fun _ h9 => h9) dX8_fault_18 ?_
    obtain ⟨rfl, rfl⟩ := hs_ri hf
    exact hs_iret hx hb hr hlk hB hS dX8_fault_21
set_option maxRecDepth 100000 in
set_option maxHeartbeats 4000000 in
theorem wX8_fault_10 (fu : Nat) (C : hs_Cx p s m args meth c X A yX8_fault cX8_fault 2 (some .int) wsX8_fault) (hem : ad hs_em = X.2.2.1.2.2.2)  {H : Heap} {locs : List Loc} {ls : Array Slot} (σ : hs_T) (x0 : Nat) (hf : fX8_fault_10 fu  σ x0 = some (r, τ)) (hB : hs_H X.1 X.2.1 ad A σ H) (hS : va_S A s.heap H locs) (hl : lv_has ls 2 [(0, .ref (ad x0))]) : W p l e rmX8_fault s m args below meth c H locs 0 0 (MQ below (hs_Q0 hs_tvi X ad A r τ) args s 0 0 A) (F0 m 10 ls []) := by
  unfold fX8_fault_10 at hf
  exact hs_lp_i (P := fun a => ∀ (H : Heap) (locs : List Loc) (ls : Array Slot), hs_H X.1 X.2.1 ad A a.1 H → va_S A s.heap H locs → lv_has ls 2 [(0, .ref (ad a.2))] → W p l e rmX8_fault s m args below meth c H locs 0 0 (MQ below (hs_Q0 hs_tvi X ad A r τ) args s 0 0 A) (F0 m 10 ls [])) (fun k a hk hf H locs ls hB hS hl => wX8_fault_10b fu C hem  _ (fun σ x0 H locs ls hf hB hS hl => hk (σ, x0) hf H locs ls hB hS hl) a.1 a.2 hf hB hS hl) fu (σ, x0) hf H locs ls hB hS hl
set_option maxRecDepth 100000 in
set_option maxHeartbeats 4000000 in
theorem wX8_fault_e (fu : Nat) (C : hs_Cx p s m args meth c X A yX8_fault cX8_fault 2 (some .int) wsX8_fault) (hem : ad hs_em = X.2.2.1.2.2.2) {H : Heap} {locs : List Loc} {ls : Array Slot} (σ : hs_T) (o : Nat) (hf : fX8_fault fu σ o = some (r, τ)) (hB : hs_H X.1 X.2.1 ad A σ H) (hS : va_S A s.heap H locs) (hl : lv_has ls 2 [(0, .ref (ad o))]) : W p l e rmX8_fault s m args below meth c H locs 0 0 (MQ below (hs_Q0 hs_tvi X ad A r τ) args s 0 0 A) (F0 m 0 ls []) := by
  obtain ⟨hx, hb, hml, hr, hts, hown, hlk, hnm, hV, hA0, hA⟩ := id C
  have hown : s.vm.findClass RX8 = some m.cls := hown
  have hK := hV.1
  have hNw := hV.2.1
  unfold fX8_fault at hf
  refine lv_aload_n hx hb dX8_fault_0 rfl (lv_at hl 0 rfl) ?_
  refine lv_iconst (v := 0) hx hb dX8_fault_1 (by decide) ?_
  obtain ⟨σ2, h1, hf⟩ := hs_bi hf
  refine x_putI hx hb hts inX8_fault_X8 tyX8_ok nmX8 hown hK hB hS (by decide) rfl (k := 8) (by decide) rfl h1 (hts _ lkX8_fault_0) (fun _ h9 => h9) rfl (by decide +kernel) dX8_fault_2 (fun H locs hB hS => ?_)
  refine lv_aload_n hx hb dX8_fault_5 rfl (lv_at hl 0 rfl) ?_
  refine lv_iconst (v := 0) hx hb dX8_fault_6 (by decide) ?_
  obtain ⟨σ4, h3, hf⟩ := hs_bi hf
  refine x_putI hx hb hts inX8_fault_X8 tyX8_ok nmX8 hown hK hB hS (by decide) rfl (k := 11) (by decide) rfl h3 (hts _ lkX8_fault_1) (fun _ h9 => h9) rfl (by decide +kernel) dX8_fault_7 (fun H locs hB hS => ?_)
  exact wX8_fault_10 fu C hem σ4 o hf hB hS hl
end SX8_fault
set_option maxRecDepth 100000 in
theorem ctX8_fault (l : Launch) (fu : Nat) (σ : hs_T) (o : Nat) : hs_C0 hs_tvi l yX8_fault wsX8_fault rmX8_fault (fun ad => [.ref (ad o)]) σ (fX8_fault fu σ o) := by
  intro X ad sz r τ hf
  refine hs_enter (cc := cX8_fault) (maxL := 2) (ret := (some .int)) (by decide) rfl (Nat.le_of_ble_eq_true rfl) ?_
  intro p e s m below meth c ls C hl hem hB hS hsz
  exact wX8_fault_e fu C hem σ o hf hB hS hl
/-! ServiceGameModel.patch(II)I -/
abbrev rmX8_patch : Room := { frames := 5, cells := 0, slots := 0, locals := 109 }
theorem inX8_patch_X8 : ∀ w ∈ wsX80, w ∈ wsX8_patch := fun _ h => List.mem_cons_of_mem _ (List.mem_append_right _ h)
theorem lkX8_patch_0 : Cond.fieldLink RX8 123 "ServiceGameModel" "taped" "I" ∈ wsX8_patch := by decide +kernel
theorem lkX8_patch_1 : Cond.fieldLink RX8 143 "ServiceGameModel" "readMany" "I" ∈ wsX8_patch := by decide +kernel
theorem lkX8_patch_2 : Cond.fieldLink RX8 19 "ServiceGameModel" "size" "[I" ∈ wsX8_patch := by decide +kernel
theorem lkX8_patch_3 : Cond.fieldLink RX8 22 "ServiceGameModel" "waits" "[Z" ∈ wsX8_patch := by decide +kernel
theorem lkX8_patch_4 : Cond.fieldLink RX8 13 "ServiceGameModel" "step" "[I" ∈ wsX8_patch := by decide +kernel
theorem lkX8_patch_5 : Cond.fieldLink RX8 26 "ServiceGameModel" "readStep" "[I" ∈ wsX8_patch := by decide +kernel
theorem lkX8_patch_6 : Cond.fieldLink RX8 16 "ServiceGameModel" "number" "[I" ∈ wsX8_patch := by decide +kernel
theorem lkX8_patch_7 : Cond.fieldLink RX8 29 "ServiceGameModel" "readNumber" "[I" ∈ wsX8_patch := by decide +kernel
def fX8_patch_42b (fu : Nat)  (k42 : hs_T → Nat → Int32 → Int32 → Option (Int32 × hs_T)) (σ : hs_T) (x0 : Nat) (x3 : Int32) (x5 : Int32) : Option (Int32 × hs_T) :=
 (hs_gI σ 10 x0 11).bind fun v14 =>
 if v14 ≤ x5 then
 ((hs_gN σ 10 x0 5).bind fun n17 =>
 (hs_gI σ 10 x0 11).bind fun v19 =>
 (hs_st σ 11 n17 (x3 + 15) v19).bind fun σ20 =>
 (hs_gN σ20 10 x0 6).bind fun n23 =>
 (hs_st σ20 12 n23 x3 (1 &&& 1)).bind fun σ24 =>
 (hs_gI σ24 10 x0 11).bind fun v27 =>
 some (v27, σ24))
 else
 ((hs_gN σ 10 x0 3).bind fun n29 =>
 (hs_gN σ 10 x0 9).bind fun n31 =>
 (hs_ld σ 11 n31 x5).bind fun v32 =>
 (hs_st σ 11 n29 ((24 * (x3 + 15)) + x5) v32).bind fun σ34 =>
 (hs_gN σ34 10 x0 4).bind fun n37 =>
 (hs_gN σ34 10 x0 10).bind fun n39 =>
 (hs_ld σ34 11 n39 x5).bind fun v40 =>
 (hs_st σ34 11 n37 ((24 * (x3 + 15)) + x5) v40).bind fun σ42 =>
 k42 σ42 x0 x3 (x5 + 1))
def fX8_patch_42 (fu : Nat)  (σ : hs_T) (x0 : Nat) (x3 : Int32) (x5 : Int32) : Option (Int32 × hs_T) :=
   hs_lp (fun (k : hs_T × Nat × Int32 × Int32 → Option (Int32 × hs_T)) (a : hs_T × Nat × Int32 × Int32) => fX8_patch_42b fu  (fun σ x0 x3 x5 => k (σ, x0, x3, x5)) a.1 a.2.1 a.2.2.1 a.2.2.2) fu (σ, x0, x3, x5)
def fX8_patch (fu : Nat) (σ : hs_T) (o : Nat) (a1 : Int32) (a2 : Int32) : Option (Int32 × hs_T) :=
 (hs_ck σ 10 o).bind fun _ =>
 hs_b2 (fX8_isPlace fu σ o a1 a2) fun v4 σ2 =>
 if v4 = 0 then
 (some ((-1), σ2))
 else
 ((hs_ck σ2 10 o).bind fun _ =>
 hs_b2 (fX8_fault fu σ2 o) fun v9 σ7 =>
 (hs_pI σ7 10 o 7 0).bind fun σ11 =>
 if v9 < 0 then
 (fX8_patch_42 fu σ11 o ((3 * a1) + a2) 0)
 else
 (some (((-10) - v9), σ11)))
section SX8_patch
variable {p : Program} {l : Launch} {e : Env} {s : State} {m : MethodId} {args : Array Value} {below : List Frame} {meth : Method} {c : Code} {X : hs_X} {ad : Nat → Nat} {A : Nat → Prop} {r : Int32} {τ : hs_T}
set_option maxRecDepth 100000 in
set_option maxHeartbeats 4000000 in
theorem wX8_patch_42b (fu : Nat) (C : hs_Cx p s m args meth c X A yX8_patch cX8_patch 6 (some .int) wsX8_patch) (hem : ad hs_em = X.2.2.1.2.2.2)  (k42 : hs_T → Nat → Int32 → Int32 → Option (Int32 × hs_T)) (hk42 : ∀ (σ : hs_T) (x0 : Nat) (x3 : Int32) (x5 : Int32) (H : Heap) (locs : List Loc) (ls : Array Slot), k42 σ x0 x3 x5 = some (r, τ) → hs_H X.1 X.2.1 ad A σ H → va_S A s.heap H locs → lv_has ls 6 [(0, .ref (ad x0)), (3, .int x3), (5, .int x5)] → W p l e rmX8_patch s m args below meth c H locs 0 0 (MQ below (hs_Q0 hs_tvi X ad A r τ) args s 0 0 A) (F0 m 42 ls [])) {H : Heap} {locs : List Loc} {ls : Array Slot} (σ : hs_T) (x0 : Nat) (x3 : Int32) (x5 : Int32) (hf : fX8_patch_42b fu  k42 σ x0 x3 x5 = some (r, τ)) (hB : hs_H X.1 X.2.1 ad A σ H) (hS : va_S A s.heap H locs) (hl : lv_has ls 6 [(0, .ref (ad x0)), (3, .int x3), (5, .int x5)]) : W p l e rmX8_patch s m args below meth c H locs 0 0 (MQ below (hs_Q0 hs_tvi X ad A r τ) args s 0 0 A) (F0 m 42 ls []) := by
  obtain ⟨hx, hb, hml, hr, hts, hown, hlk, hnm, hV, hA0, hA⟩ := id C
  have hown : s.vm.findClass RX8 = some m.cls := hown
  have hK := hV.1
  have hNw := hV.2.1
  unfold fX8_patch_42b at hf
  refine lv_iload hx hb dX8_patch_42 (lv_at hl 2 rfl) ?_
  refine lv_aload_n hx hb dX8_patch_44 rfl (lv_at hl 0 rfl) ?_
  obtain ⟨v14, h13, hf⟩ := hs_bi hf
  refine x_getI hx hb hts inX8_patch_X8 hown hK hB (by decide) rfl (k := 11) (by decide) rfl h13 (hts _ lkX8_patch_1) (fun _ h9 => h9) dX8_patch_45 ?_
  refine lv_icmp_ge (tgt := 101) hx hb dX8_patch_48 (by decide) (fun h15 => ?_) (fun h15 => ?_)
  · have hf := hs_tt h15 hf
    refine lv_aload_n hx hb dX8_patch_101 rfl (lv_at hl 0 rfl) ?_
    obtain ⟨n17, h16, hf⟩ := hs_bi hf
    refine x_getN hx hb hts inX8_patch_X8 hown hK hB (by decide) rfl (k := 5) (by decide) rfl h16 (hts _ lkX8_patch_2) (fun _ h9 => h9) dX8_patch_102 ?_
    refine lv_iload_n hx hb dX8_patch_105 rfl (lv_at hl 1 rfl) ?_
    refine lv_bipush (v := 15) hx hb dX8_patch_106 (by decide) ?_
    refine lv_iadd hx hb dX8_patch_108 ?_
    refine lv_aload_n hx hb dX8_patch_109 rfl (lv_at hl 0 rfl) ?_
    obtain ⟨v19, h18, hf⟩ := hs_bi hf
    refine x_getI hx hb hts inX8_patch_X8 hown hK hB (by decide) rfl (k := 11) (by decide) rfl h18 (hts _ lkX8_patch_1) (fun _ h9 => h9) dX8_patch_110 ?_
    obtain ⟨σ20, h21, hf⟩ := hs_bi hf
    refine x_iast hx hb hK hB hS h21 dX8_patch_113 (fun H locs hB hS => ?_)
    refine lv_aload_n hx hb dX8_patch_114 rfl (lv_at hl 0 rfl) ?_
    obtain ⟨n23, h22, hf⟩ := hs_bi hf
    refine x_getN hx hb hts inX8_patch_X8 hown hK hB (by decide) rfl (k := 6) (by decide) rfl h22 (hts _ lkX8_patch_3) (fun _ h9 => h9) dX8_patch_115 ?_
    refine lv_iload_n hx hb dX8_patch_118 rfl (lv_at hl 1 rfl) ?_
    refine lv_iconst (v := 1) hx hb dX8_patch_119 (by decide) ?_
    obtain ⟨σ24, h25, hf⟩ := hs_bi hf
    refine x_zast hx hb hK hB hS h25 dX8_patch_120 (fun H locs hB hS => ?_)
    refine lv_aload_n hx hb dX8_patch_121 rfl (lv_at hl 0 rfl) ?_
    obtain ⟨v27, h26, hf⟩ := hs_bi hf
    refine x_getI hx hb hts inX8_patch_X8 hown hK hB (by decide) rfl (k := 11) (by decide) rfl h26 (hts _ lkX8_patch_1) (fun _ h9 => h9) dX8_patch_122 ?_
    obtain ⟨rfl, rfl⟩ := hs_ri hf
    exact hs_iret hx hb hr hlk hB hS dX8_patch_125
  · have hf := hs_ff h15 hf
    refine lv_aload_n hx hb dX8_patch_51 rfl (lv_at hl 0 rfl) ?_
    obtain ⟨n29, h28, hf⟩ := hs_bi hf
    refine x_getN hx hb hts inX8_patch_X8 hown hK hB (by decide) rfl (k := 3) (by decide) rfl h28 (hts _ lkX8_patch_4) (fun _ h9 => h9) dX8_patch_52 ?_
    refine lv_bipush (v := 24) hx hb dX8_patch_55 (by decide) ?_
    refine lv_iload_n hx hb dX8_patch_57 rfl (lv_at hl 1 rfl) ?_
    refine lv_bipush (v := 15) hx hb dX8_patch_58 (by decide) ?_
    refine lv_iadd hx hb dX8_patch_60 ?_
    refine lv_imul hx hb dX8_patch_61 ?_
    refine lv_iload hx hb dX8_patch_62 (lv_at hl 2 rfl) ?_
    refine lv_iadd hx hb dX8_patch_64 ?_
    refine lv_aload_n hx hb dX8_patch_65 rfl (lv_at hl 0 rfl) ?_
    obtain ⟨n31, h30, hf⟩ := hs_bi hf
    refine x_getN hx hb hts inX8_patch_X8 hown hK hB (by decide) rfl (k := 9) (by decide) rfl h30 (hts _ lkX8_patch_5) (fun _ h9 => h9) dX8_patch_66 ?_
    refine lv_iload hx hb dX8_patch_69 (lv_at hl 2 rfl) ?_
    obtain ⟨v32, h33, hf⟩ := hs_bi hf
    refine x_iald hx hb hK hB h33 dX8_patch_71 ?_
    obtain ⟨σ34, h35, hf⟩ := hs_bi hf
    refine x_iast hx hb hK hB hS h35 dX8_patch_72 (fun H locs hB hS => ?_)
    refine lv_aload_n hx hb dX8_patch_73 rfl (lv_at hl 0 rfl) ?_
    obtain ⟨n37, h36, hf⟩ := hs_bi hf
    refine x_getN hx hb hts inX8_patch_X8 hown hK hB (by decide) rfl (k := 4) (by decide) rfl h36 (hts _ lkX8_patch_6) (fun _ h9 => h9) dX8_patch_74 ?_
    refine lv_bipush (v := 24) hx hb dX8_patch_77 (by decide) ?_
    refine lv_iload_n hx hb dX8_patch_79 rfl (lv_at hl 1 rfl) ?_
    refine lv_bipush (v := 15) hx hb dX8_patch_80 (by decide) ?_
    refine lv_iadd hx hb dX8_patch_82 ?_
    refine lv_imul hx hb dX8_patch_83 ?_
    refine lv_iload hx hb dX8_patch_84 (lv_at hl 2 rfl) ?_
    refine lv_iadd hx hb dX8_patch_86 ?_
    refine lv_aload_n hx hb dX8_patch_87 rfl (lv_at hl 0 rfl) ?_
    obtain ⟨n39, h38, hf⟩ := hs_bi hf
    refine x_getN hx hb hts inX8_patch_X8 hown hK hB (by decide) rfl (k := 10) (by decide) rfl h38 (hts _ lkX8_patch_7) (fun _ h9 => h9) dX8_patch_88 ?_
    refine lv_iload hx hb dX8_patch_91 (lv_at hl 2 rfl) ?_
    obtain ⟨v40, h41, hf⟩ := hs_bi hf
    refine x_iald hx hb hK hB h41 dX8_patch_93 ?_
    obtain ⟨σ42, h43, hf⟩ := hs_bi hf
    refine x_iast hx hb hK hB hS h43 dX8_patch_94 (fun H locs hB hS => ?_)
    refine lv_iinc (v := (x5 + 1)) (lv' := [(5, .int (x5 + 1)), (0, .ref (ad x0)), (3, .int x3)]) hx hb dX8_patch_95 hl (k := 2) rfl rfl (by decide) rfl (fun ls hl => ?_)
    refine lv_goto (tgt := 42) hx hb dX8_patch_98 (by decide) ?_
    exact hk42 σ42 x0 x3 (x5 + 1) _ _ _ hf hB hS (lv_sub hl [1, 2, 0] rfl)
set_option maxRecDepth 100000 in
set_option maxHeartbeats 4000000 in
theorem wX8_patch_42 (fu : Nat) (C : hs_Cx p s m args meth c X A yX8_patch cX8_patch 6 (some .int) wsX8_patch) (hem : ad hs_em = X.2.2.1.2.2.2)  {H : Heap} {locs : List Loc} {ls : Array Slot} (σ : hs_T) (x0 : Nat) (x3 : Int32) (x5 : Int32) (hf : fX8_patch_42 fu  σ x0 x3 x5 = some (r, τ)) (hB : hs_H X.1 X.2.1 ad A σ H) (hS : va_S A s.heap H locs) (hl : lv_has ls 6 [(0, .ref (ad x0)), (3, .int x3), (5, .int x5)]) : W p l e rmX8_patch s m args below meth c H locs 0 0 (MQ below (hs_Q0 hs_tvi X ad A r τ) args s 0 0 A) (F0 m 42 ls []) := by
  unfold fX8_patch_42 at hf
  exact hs_lp_i (P := fun a => ∀ (H : Heap) (locs : List Loc) (ls : Array Slot), hs_H X.1 X.2.1 ad A a.1 H → va_S A s.heap H locs → lv_has ls 6 [(0, .ref (ad a.2.1)), (3, .int a.2.2.1), (5, .int a.2.2.2)] → W p l e rmX8_patch s m args below meth c H locs 0 0 (MQ below (hs_Q0 hs_tvi X ad A r τ) args s 0 0 A) (F0 m 42 ls [])) (fun k a hk hf H locs ls hB hS hl => wX8_patch_42b fu C hem  _ (fun σ x0 x3 x5 H locs ls hf hB hS hl => hk (σ, x0, x3, x5) hf H locs ls hB hS hl) a.1 a.2.1 a.2.2.1 a.2.2.2 hf hB hS hl) fu (σ, x0, x3, x5) hf H locs ls hB hS hl
set_option maxRecDepth 100000 in
set_option maxHeartbeats 4000000 in
theorem wX8_patch_e (fu : Nat) (C : hs_Cx p s m args meth c X A yX8_patch cX8_patch 6 (some .int) wsX8_patch) (hem : ad hs_em = X.2.2.1.2.2.2) {H : Heap} {locs : List Loc} {ls : Array Slot} (σ : hs_T) (o : Nat) (a1 : Int32) (a2 : Int32) (hf : fX8_patch fu σ o a1 a2 = some (r, τ)) (hB : hs_H X.1 X.2.1 ad A σ H) (hS : va_S A s.heap H locs) (hl : lv_has ls 6 [(0, .ref (ad o)), (1, .int a1), (2, .int a2)]) : W p l e rmX8_patch s m args below meth c H locs 0 0 (MQ below (hs_Q0 hs_tvi X ad A r τ) args s 0 0 A) (F0 m 0 ls []) := by
  obtain ⟨hx, hb, hml, hr, hts, hown, hlk, hnm, hV, hA0, hA⟩ := id C
  have hown : s.vm.findClass RX8 = some m.cls := hown
  have hK := hV.1
  have hNw := hV.2.1
  unfold fX8_patch at hf
  refine lv_aload_n hx hb dX8_patch_0 rfl (lv_at hl 0 rfl) ?_
  refine lv_iload_n hx hb dX8_patch_1 rfl (lv_at hl 1 rfl) ?_
  refine lv_iload_n hx hb dX8_patch_2 rfl (lv_at hl 2 rfl) ?_
  obtain ⟨_, h3, hf⟩ := hs_bi hf
  obtain ⟨v4, σ2, h1, hf⟩ := hs_b2i hf
  refine hs_call0 (va_runV (As := [.int a1, .int a2]) (rest := []) ⟨hx, hb, hml, hown, hts⟩ (ctX8_isPlace l fu σ o a1 a2 X ad H.size _ _ h1) (cwV 2 hts gX8_patch_X8_isPlace rfl rfl rfl (by decide +kernel) ⟨Nat.le_of_ble_eq_true rfl, Nat.le_of_ble_eq_true rfl⟩) (hs_preV (hs_recv hK hB (hs_ck_i h3) (by decide) rfl) hV hB hS hA0 hA hem) rfl rfl hl.1 rfl (lv_room (Nat.le_of_ble_eq_true rfl)) dX8_patch_3 ⟨Nat.le_of_ble_eq_true rfl, Nat.le_of_ble_eq_true rfl⟩) hB hS hA rfl (fun H locs hB hS => ?_)
  refine lv_if_ne (tgt := 11) hx hb dX8_patch_6 (by decide) (fun h5 => ?_) (fun h5 => ?_)
  · have hf := hs_ff h5 hf
    refine lv_iconst (v := 3) hx hb dX8_patch_11 (by decide) ?_
    refine lv_iload_n hx hb dX8_patch_12 rfl (lv_at hl 1 rfl) ?_
    refine lv_imul hx hb dX8_patch_13 ?_
    refine lv_iload_n hx hb dX8_patch_14 rfl (lv_at hl 2 rfl) ?_
    refine lv_iadd hx hb dX8_patch_15 ?_
    refine lv_istore_n (lv' := [(3, .int ((3 * a1) + a2)), (0, .ref (ad o)), (1, .int a1), (2, .int a2)]) hx hb dX8_patch_16 rfl hl (by decide) rfl (fun ls hl => ?_)
    refine lv_aload_n hx hb dX8_patch_17 rfl (lv_at hl 1 rfl) ?_
    obtain ⟨_, h8, hf⟩ := hs_bi hf
    obtain ⟨v9, σ7, h6, hf⟩ := hs_b2i hf
    refine hs_call0 (va_runV (As := []) (rest := []) ⟨hx, hb, hml, hown, hts⟩ (ctX8_fault l fu σ2 o X ad H.size _ _ h6) (cwV 0 hts gX8_patch_X8_fault rfl rfl rfl (by decide +kernel) ⟨Nat.le_of_ble_eq_true rfl, Nat.le_of_ble_eq_true rfl⟩) (hs_preV (hs_recv hK hB (hs_ck_i h8) (by decide) rfl) hV hB hS hA0 hA hem) rfl rfl hl.1 rfl (lv_room (Nat.le_of_ble_eq_true rfl)) dX8_patch_18 ⟨Nat.le_of_ble_eq_true rfl, Nat.le_of_ble_eq_true rfl⟩) hB hS hA rfl (fun H locs hB hS => ?_)
    refine lv_istore (lv' := [(4, .int v9), (3, .int ((3 * a1) + a2)), (0, .ref (ad o)), (1, .int a1), (2, .int a2)]) hx hb dX8_patch_21 hl (by decide) rfl (fun ls hl => ?_)
    refine lv_aload_n hx hb dX8_patch_23 rfl (lv_at hl 2 rfl) ?_
    refine lv_iconst (v := 0) hx hb dX8_patch_24 (by decide) ?_
    obtain ⟨σ11, h10, hf⟩ := hs_bi hf
    refine x_putI hx hb hts inX8_patch_X8 tyX8_ok nmX8 hown hK hB hS (by decide) rfl (k := 7) (by decide) rfl h10 (hts _ lkX8_patch_0) (fun _ h9 => h9) rfl (by decide +kernel) dX8_patch_25 (fun H locs hB hS => ?_)
    refine lv_iload hx hb dX8_patch_28 (lv_at hl 0 rfl) ?_
    refine lv_if_lt (tgt := 39) hx hb dX8_patch_30 (by decide) (fun h12 => ?_) (fun h12 => ?_)
    · have hf := hs_tt h12 hf
      refine lv_iconst (v := 0) hx hb dX8_patch_39 (by decide) ?_
      refine lv_istore (lv' := [(5, .int 0), (4, .int v9), (3, .int ((3 * a1) + a2)), (0, .ref (ad o)), (1, .int a1), (2, .int a2)]) hx hb dX8_patch_40 hl (by decide) rfl (fun ls hl => ?_)
      exact wX8_patch_42 fu C hem σ11 o ((3 * a1) + a2) 0 hf hB hS (lv_sub hl [3, 2, 0] rfl)
    · have hf := hs_ff h12 hf
      refine lv_bipush (v := (-10)) hx hb dX8_patch_33 (by decide) ?_
      refine lv_iload hx hb dX8_patch_35 (lv_at hl 0 rfl) ?_
      refine lv_isub hx hb dX8_patch_37 ?_
      obtain ⟨rfl, rfl⟩ := hs_ri hf
      exact hs_iret hx hb hr hlk hB hS dX8_patch_38
  · have hf := hs_tt h5 hf
    refine lv_iconst (v := (-1)) hx hb dX8_patch_9 (by decide) ?_
    obtain ⟨rfl, rfl⟩ := hs_ri hf
    exact hs_iret hx hb hr hlk hB hS dX8_patch_10
end SX8_patch
set_option maxRecDepth 100000 in
theorem ctX8_patch (l : Launch) (fu : Nat) (σ : hs_T) (o : Nat) (a1 : Int32) (a2 : Int32) : hs_C0 hs_tvi l yX8_patch wsX8_patch rmX8_patch (fun ad => [.ref (ad o), .int a1, .int a2]) σ (fX8_patch fu σ o a1 a2) := by
  intro X ad sz r τ hf
  refine hs_enter (cc := cX8_patch) (maxL := 6) (ret := (some .int)) (by decide) rfl (Nat.le_of_ble_eq_true rfl) ?_
  intro p e s m below meth c ls C hl hem hB hS hsz
  exact wX8_patch_e fu C hem σ o a1 a2 hf hB hS hl
/-! ServiceGameModel.unpatch(II)I -/
abbrev rmX8_unpatch : Room := { frames := 2, cells := 0, slots := 0, locals := 47 }
theorem inX8_unpatch_X8 : ∀ w ∈ wsX80, w ∈ wsX8_unpatch := fun _ h => List.mem_cons_of_mem _ (List.mem_append_right _ h)
theorem lkX8_unpatch_0 : Cond.fieldLink RX8 22 "ServiceGameModel" "waits" "[Z" ∈ wsX8_unpatch := by decide +kernel
theorem lkX8_unpatch_1 : Cond.fieldLink RX8 19 "ServiceGameModel" "size" "[I" ∈ wsX8_unpatch := by decide +kernel
def fX8_unpatch (fu : Nat) (σ : hs_T) (o : Nat) (a1 : Int32) (a2 : Int32) : Option (Int32 × hs_T) :=
 (hs_ck σ 10 o).bind fun _ =>
 hs_b2 (fX8_isPlace fu σ o a1 a2) fun v4 σ2 =>
 if v4 = 0 then
 (some ((-1), σ2))
 else
 ((hs_gN σ2 10 o 6).bind fun n7 =>
 (hs_ld σ2 12 n7 ((3 * a1) + a2)).bind fun v8 =>
 if v8 = 0 then
 (some ((-3), σ2))
 else
 ((hs_gN σ2 10 o 6).bind fun n12 =>
 (hs_st σ2 12 n12 ((3 * a1) + a2) (0 &&& 1)).bind fun σ13 =>
 (hs_gN σ13 10 o 5).bind fun n16 =>
 (hs_ld σ13 11 n16 (((3 * a1) + a2) + 15)).bind fun v17 =>
 some (v17, σ13)))
section SX8_unpatch
variable {p : Program} {l : Launch} {e : Env} {s : State} {m : MethodId} {args : Array Value} {below : List Frame} {meth : Method} {c : Code} {X : hs_X} {ad : Nat → Nat} {A : Nat → Prop} {r : Int32} {τ : hs_T}
set_option maxRecDepth 100000 in
set_option maxHeartbeats 4000000 in
theorem wX8_unpatch_e (fu : Nat) (C : hs_Cx p s m args meth c X A yX8_unpatch cX8_unpatch 4 (some .int) wsX8_unpatch) (hem : ad hs_em = X.2.2.1.2.2.2) {H : Heap} {locs : List Loc} {ls : Array Slot} (σ : hs_T) (o : Nat) (a1 : Int32) (a2 : Int32) (hf : fX8_unpatch fu σ o a1 a2 = some (r, τ)) (hB : hs_H X.1 X.2.1 ad A σ H) (hS : va_S A s.heap H locs) (hl : lv_has ls 4 [(0, .ref (ad o)), (1, .int a1), (2, .int a2)]) : W p l e rmX8_unpatch s m args below meth c H locs 0 0 (MQ below (hs_Q0 hs_tvi X ad A r τ) args s 0 0 A) (F0 m 0 ls []) := by
  obtain ⟨hx, hb, hml, hr, hts, hown, hlk, hnm, hV, hA0, hA⟩ := id C
  have hown : s.vm.findClass RX8 = some m.cls := hown
  have hK := hV.1
  have hNw := hV.2.1
  unfold fX8_unpatch at hf
  refine lv_aload_n hx hb dX8_unpatch_0 rfl (lv_at hl 0 rfl) ?_
  refine lv_iload_n hx hb dX8_unpatch_1 rfl (lv_at hl 1 rfl) ?_
  refine lv_iload_n hx hb dX8_unpatch_2 rfl (lv_at hl 2 rfl) ?_
  obtain ⟨_, h3, hf⟩ := hs_bi hf
  obtain ⟨v4, σ2, h1, hf⟩ := hs_b2i hf
  refine hs_call0 (va_runV (As := [.int a1, .int a2]) (rest := []) ⟨hx, hb, hml, hown, hts⟩ (ctX8_isPlace l fu σ o a1 a2 X ad H.size _ _ h1) (cwV 2 hts gX8_unpatch_X8_isPlace rfl rfl rfl (by decide +kernel) ⟨Nat.le_of_ble_eq_true rfl, Nat.le_of_ble_eq_true rfl⟩) (hs_preV (hs_recv hK hB (hs_ck_i h3) (by decide) rfl) hV hB hS hA0 hA hem) rfl rfl hl.1 rfl (lv_room (Nat.le_of_ble_eq_true rfl)) dX8_unpatch_3 ⟨Nat.le_of_ble_eq_true rfl, Nat.le_of_ble_eq_true rfl⟩) hB hS hA rfl (fun H locs hB hS => ?_)
  refine lv_if_ne (tgt := 11) hx hb dX8_unpatch_6 (by decide) (fun h5 => ?_) (fun h5 => ?_)
  · have hf := hs_ff h5 hf
    refine lv_iconst (v := 3) hx hb dX8_unpatch_11 (by decide) ?_
    refine lv_iload_n hx hb dX8_unpatch_12 rfl (lv_at hl 1 rfl) ?_
    refine lv_imul hx hb dX8_unpatch_13 ?_
    refine lv_iload_n hx hb dX8_unpatch_14 rfl (lv_at hl 2 rfl) ?_
    refine lv_iadd hx hb dX8_unpatch_15 ?_
    refine lv_istore_n (lv' := [(3, .int ((3 * a1) + a2)), (0, .ref (ad o)), (1, .int a1), (2, .int a2)]) hx hb dX8_unpatch_16 rfl hl (by decide) rfl (fun ls hl => ?_)
    refine lv_aload_n hx hb dX8_unpatch_17 rfl (lv_at hl 1 rfl) ?_
    obtain ⟨n7, h6, hf⟩ := hs_bi hf
    refine x_getN hx hb hts inX8_unpatch_X8 hown hK hB (by decide) rfl (k := 6) (by decide) rfl h6 (hts _ lkX8_unpatch_0) (fun _ h9 => h9) dX8_unpatch_18 ?_
    refine lv_iload_n hx hb dX8_unpatch_21 rfl (lv_at hl 0 rfl) ?_
    obtain ⟨v8, h9, hf⟩ := hs_bi hf
    refine x_zald hx hb hK hB h9 dX8_unpatch_22 ?_
    refine lv_if_ne (tgt := 29) hx hb dX8_unpatch_23 (by decide) (fun h10 => ?_) (fun h10 => ?_)
    · have hf := hs_ff h10 hf
      refine lv_aload_n hx hb dX8_unpatch_29 rfl (lv_at hl 1 rfl) ?_
      obtain ⟨n12, h11, hf⟩ := hs_bi hf
      refine x_getN hx hb hts inX8_unpatch_X8 hown hK hB (by decide) rfl (k := 6) (by decide) rfl h11 (hts _ lkX8_unpatch_0) (fun _ h9 => h9) dX8_unpatch_30 ?_
      refine lv_iload_n hx hb dX8_unpatch_33 rfl (lv_at hl 0 rfl) ?_
      refine lv_iconst (v := 0) hx hb dX8_unpatch_34 (by decide) ?_
      obtain ⟨σ13, h14, hf⟩ := hs_bi hf
      refine x_zast hx hb hK hB hS h14 dX8_unpatch_35 (fun H locs hB hS => ?_)
      refine lv_aload_n hx hb dX8_unpatch_36 rfl (lv_at hl 1 rfl) ?_
      obtain ⟨n16, h15, hf⟩ := hs_bi hf
      refine x_getN hx hb hts inX8_unpatch_X8 hown hK hB (by decide) rfl (k := 5) (by decide) rfl h15 (hts _ lkX8_unpatch_1) (fun _ h9 => h9) dX8_unpatch_37 ?_
      refine lv_iload_n hx hb dX8_unpatch_40 rfl (lv_at hl 0 rfl) ?_
      refine lv_bipush (v := 15) hx hb dX8_unpatch_41 (by decide) ?_
      refine lv_iadd hx hb dX8_unpatch_43 ?_
      obtain ⟨v17, h18, hf⟩ := hs_bi hf
      refine x_iald hx hb hK hB h18 dX8_unpatch_44 ?_
      obtain ⟨rfl, rfl⟩ := hs_ri hf
      exact hs_iret hx hb hr hlk hB hS dX8_unpatch_45
    · have hf := hs_tt h10 hf
      refine lv_bipush (v := (-3)) hx hb dX8_unpatch_26 (by decide) ?_
      obtain ⟨rfl, rfl⟩ := hs_ri hf
      exact hs_iret hx hb hr hlk hB hS dX8_unpatch_28
  · have hf := hs_tt h5 hf
    refine lv_iconst (v := (-1)) hx hb dX8_unpatch_9 (by decide) ?_
    obtain ⟨rfl, rfl⟩ := hs_ri hf
    exact hs_iret hx hb hr hlk hB hS dX8_unpatch_10
end SX8_unpatch
set_option maxRecDepth 100000 in
theorem ctX8_unpatch (l : Launch) (fu : Nat) (σ : hs_T) (o : Nat) (a1 : Int32) (a2 : Int32) : hs_C0 hs_tvi l yX8_unpatch wsX8_unpatch rmX8_unpatch (fun ad => [.ref (ad o), .int a1, .int a2]) σ (fX8_unpatch fu σ o a1 a2) := by
  intro X ad sz r τ hf
  refine hs_enter (cc := cX8_unpatch) (maxL := 4) (ret := (some .int)) (by decide) rfl (Nat.le_of_ble_eq_true rfl) ?_
  intro p e s m below meth c ls C hl hem hB hS hsz
  exact wX8_unpatch_e fu C hem σ o a1 a2 hf hB hS hl
/-! ServiceGameModel.cell(III)I -/
abbrev rmX8_cell : Room := { frames := 2, cells := 0, slots := 0, locals := 47 }
theorem inX8_cell_X8 : ∀ w ∈ wsX80, w ∈ wsX8_cell := fun _ h => List.mem_cons_of_mem _ (List.mem_append_right _ h)
theorem lkX8_cell_0 : Cond.constantLong RX8 156 (7) ∈ wsX8_cell := by decide +kernel
theorem lkX8_cell_1 : Cond.fieldLink RX8 32 "ServiceGameModel" "cell" "[I" ∈ wsX8_cell := by decide +kernel
def fX8_cell (fu : Nat) (σ : hs_T) (o : Nat) (a1 : Int32) (a2 : Int32) (a3 : Int32) : Option (Int32 × hs_T) :=
 (hs_ck σ 10 o).bind fun _ =>
 hs_b2 (fX8_isPlace fu σ o a1 a2) fun v4 σ2 =>
 if v4 = 0 then
 (some ((-1), σ2))
 else
 (hs_b2 (fX8_isIn fu σ2 a3.toInt64 0 7) fun v8 σ7 =>
 if v8 = 0 then
 (some ((-1), σ7))
 else
 ((hs_gN σ7 10 o 12).bind fun n11 =>
 (hs_ld σ7 11 n11 ((8 * ((3 * a1) + a2)) + a3)).bind fun v12 =>
 some (v12, σ7)))
section SX8_cell
variable {p : Program} {l : Launch} {e : Env} {s : State} {m : MethodId} {args : Array Value} {below : List Frame} {meth : Method} {c : Code} {X : hs_X} {ad : Nat → Nat} {A : Nat → Prop} {r : Int32} {τ : hs_T}
set_option maxRecDepth 100000 in
set_option maxHeartbeats 4000000 in
theorem wX8_cell_e (fu : Nat) (C : hs_Cx p s m args meth c X A yX8_cell cX8_cell 4 (some .int) wsX8_cell) (hem : ad hs_em = X.2.2.1.2.2.2) {H : Heap} {locs : List Loc} {ls : Array Slot} (σ : hs_T) (o : Nat) (a1 : Int32) (a2 : Int32) (a3 : Int32) (hf : fX8_cell fu σ o a1 a2 a3 = some (r, τ)) (hB : hs_H X.1 X.2.1 ad A σ H) (hS : va_S A s.heap H locs) (hl : lv_has ls 4 [(0, .ref (ad o)), (1, .int a1), (2, .int a2), (3, .int a3)]) : W p l e rmX8_cell s m args below meth c H locs 0 0 (MQ below (hs_Q0 hs_tvi X ad A r τ) args s 0 0 A) (F0 m 0 ls []) := by
  obtain ⟨hx, hb, hml, hr, hts, hown, hlk, hnm, hV, hA0, hA⟩ := id C
  have hown : s.vm.findClass RX8 = some m.cls := hown
  have hK := hV.1
  have hNw := hV.2.1
  unfold fX8_cell at hf
  refine lv_aload_n hx hb dX8_cell_0 rfl (lv_at hl 0 rfl) ?_
  refine lv_iload_n hx hb dX8_cell_1 rfl (lv_at hl 1 rfl) ?_
  refine lv_iload_n hx hb dX8_cell_2 rfl (lv_at hl 2 rfl) ?_
  obtain ⟨_, h3, hf⟩ := hs_bi hf
  obtain ⟨v4, σ2, h1, hf⟩ := hs_b2i hf
  refine hs_call0 (va_runV (As := [.int a1, .int a2]) (rest := []) ⟨hx, hb, hml, hown, hts⟩ (ctX8_isPlace l fu σ o a1 a2 X ad H.size _ _ h1) (cwV 2 hts gX8_cell_X8_isPlace rfl rfl rfl (by decide +kernel) ⟨Nat.le_of_ble_eq_true rfl, Nat.le_of_ble_eq_true rfl⟩) (hs_preV (hs_recv hK hB (hs_ck_i h3) (by decide) rfl) hV hB hS hA0 hA hem) rfl rfl hl.1 rfl (lv_room (Nat.le_of_ble_eq_true rfl)) dX8_cell_3 ⟨Nat.le_of_ble_eq_true rfl, Nat.le_of_ble_eq_true rfl⟩) hB hS hA rfl (fun H locs hB hS => ?_)
  refine lv_if_eq (tgt := 39) hx hb dX8_cell_6 (by decide) (fun h5 => ?_) (fun h5 => ?_)
  · have hf := hs_tt h5 hf
    refine lv_iconst (v := (-1)) hx hb dX8_cell_39 (by decide) ?_
    obtain ⟨rfl, rfl⟩ := hs_ri hf
    exact hs_iret hx hb hr hlk hB hS dX8_cell_40
  · have hf := hs_ff h5 hf
    refine lv_iload_n hx hb dX8_cell_9 rfl (lv_at hl 3 rfl) ?_
    refine lv_i2l hx hb dX8_cell_10 rfl ?_
    refine lv_lconst (v := 0) hx hb dX8_cell_11 (by decide) ?_
    refine lv_ldc2 hx hb hown (hts _ lkX8_cell_0) dX8_cell_12 ?_
    obtain ⟨v8, σ7, h6, hf⟩ := hs_b2i hf
    refine hs_call0 (va_runS (As := [.long a3.toInt64, .long 0, .long 7]) (rest := []) ⟨hx, hb, hml, hown, hts⟩ (ctX8_isIn l fu σ2 a3.toInt64 0 7 X ad H.size _ _ h6) (va_cwS 3 hts gX8_cell_X8_isIn rfl rfl rfl (by decide +kernel) ⟨Nat.le_of_ble_eq_true rfl, Nat.le_of_ble_eq_true rfl⟩) (hs_pre hV hB hS hA0 hA hem) rfl rfl hl.1 rfl (lv_room (Nat.le_of_ble_eq_true rfl)) dX8_cell_15 ⟨Nat.le_of_ble_eq_true rfl, Nat.le_of_ble_eq_true rfl⟩) hB hS hA rfl (fun H locs hB hS => ?_)
    refine lv_if_eq (tgt := 39) hx hb dX8_cell_18 (by decide) (fun h9 => ?_) (fun h9 => ?_)
    · have hf := hs_tt h9 hf
      refine lv_iconst (v := (-1)) hx hb dX8_cell_39 (by decide) ?_
      obtain ⟨rfl, rfl⟩ := hs_ri hf
      exact hs_iret hx hb hr hlk hB hS dX8_cell_40
    · have hf := hs_ff h9 hf
      refine lv_aload_n hx hb dX8_cell_21 rfl (lv_at hl 0 rfl) ?_
      obtain ⟨n11, h10, hf⟩ := hs_bi hf
      refine x_getN hx hb hts inX8_cell_X8 hown hK hB (by decide) rfl (k := 12) (by decide) rfl h10 (hts _ lkX8_cell_1) (fun _ h9 => h9) dX8_cell_22 ?_
      refine lv_bipush (v := 8) hx hb dX8_cell_25 (by decide) ?_
      refine lv_iconst (v := 3) hx hb dX8_cell_27 (by decide) ?_
      refine lv_iload_n hx hb dX8_cell_28 rfl (lv_at hl 1 rfl) ?_
      refine lv_imul hx hb dX8_cell_29 ?_
      refine lv_iload_n hx hb dX8_cell_30 rfl (lv_at hl 2 rfl) ?_
      refine lv_iadd hx hb dX8_cell_31 ?_
      refine lv_imul hx hb dX8_cell_32 ?_
      refine lv_iload_n hx hb dX8_cell_33 rfl (lv_at hl 3 rfl) ?_
      refine lv_iadd hx hb dX8_cell_34 ?_
      obtain ⟨v12, h13, hf⟩ := hs_bi hf
      refine x_iald hx hb hK hB h13 dX8_cell_35 ?_
      refine lv_goto (tgt := 40) hx hb dX8_cell_36 (by decide) ?_
      obtain ⟨rfl, rfl⟩ := hs_ri hf
      exact hs_iret hx hb hr hlk hB hS dX8_cell_40
end SX8_cell
set_option maxRecDepth 100000 in
theorem ctX8_cell (l : Launch) (fu : Nat) (σ : hs_T) (o : Nat) (a1 : Int32) (a2 : Int32) (a3 : Int32) : hs_C0 hs_tvi l yX8_cell wsX8_cell rmX8_cell (fun ad => [.ref (ad o), .int a1, .int a2, .int a3]) σ (fX8_cell fu σ o a1 a2 a3) := by
  intro X ad sz r τ hf
  refine hs_enter (cc := cX8_cell) (maxL := 4) (ret := (some .int)) (by decide) rfl (Nat.le_of_ble_eq_true rfl) ?_
  intro p e s m below meth c ls C hl hem hB hS hsz
  exact wX8_cell_e fu C hem σ o a1 a2 a3 hf hB hS hl
/-! ServiceGameModel.about(III)I -/
abbrev rmX8_about : Room := { frames := 2, cells := 0, slots := 0, locals := 47 }
theorem inX8_about_X8 : ∀ w ∈ wsX80, w ∈ wsX8_about := fun _ h => List.mem_cons_of_mem _ (List.mem_append_right _ h)
theorem lkX8_about_0 : Cond.fieldLink RX8 19 "ServiceGameModel" "size" "[I" ∈ wsX8_about := by decide +kernel
theorem lkX8_about_1 : Cond.fieldLink RX8 22 "ServiceGameModel" "waits" "[Z" ∈ wsX8_about := by decide +kernel
theorem lkX8_about_2 : Cond.fieldLink RX8 44 "ServiceGameModel" "upMany" "[I" ∈ wsX8_about := by decide +kernel
theorem lkX8_about_3 : Cond.fieldLink RX8 38 "ServiceGameModel" "brokeMany" "[I" ∈ wsX8_about := by decide +kernel
theorem lkX8_about_4 : Cond.fieldLink RX8 41 "ServiceGameModel" "fuelMany" "[I" ∈ wsX8_about := by decide +kernel
def fX8_about (fu : Nat) (σ : hs_T) (o : Nat) (a1 : Int32) (a2 : Int32) (a3 : Int32) : Option (Int32 × hs_T) :=
 (hs_ck σ 10 o).bind fun _ =>
 hs_b2 (fX8_isPlace fu σ o a1 a2) fun v4 σ2 =>
 if v4 = 0 then
 (some ((-1), σ2))
 else
 (if a3 = 0 then
 ((hs_gN σ2 10 o 5).bind fun n8 =>
 (hs_ld σ2 11 n8 ((3 * a1) + a2)).bind fun v9 =>
 some (v9, σ2))
 else
 if a3 = 1 then
 ((hs_gN σ2 10 o 6).bind fun n13 =>
 (hs_ld σ2 12 n13 ((3 * a1) + a2)).bind fun v14 =>
 if v14 = 0 then
 (some (0, σ2))
 else
 (some (1, σ2)))
 else
 if a3 = 2 then
 ((hs_gN σ2 10 o 16).bind fun n19 =>
 (hs_ld σ2 11 n19 ((3 * a1) + a2)).bind fun v20 =>
 some (v20, σ2))
 else
 if a3 = 3 then
 ((hs_gN σ2 10 o 14).bind fun n24 =>
 (hs_ld σ2 11 n24 ((3 * a1) + a2)).bind fun v25 =>
 some (v25, σ2))
 else
 if a3 = 4 then
 ((hs_gN σ2 10 o 15).bind fun n29 =>
 (hs_ld σ2 11 n29 ((3 * a1) + a2)).bind fun v30 =>
 some (v30, σ2))
 else
 (some ((-1), σ2)))
section SX8_about
variable {p : Program} {l : Launch} {e : Env} {s : State} {m : MethodId} {args : Array Value} {below : List Frame} {meth : Method} {c : Code} {X : hs_X} {ad : Nat → Nat} {A : Nat → Prop} {r : Int32} {τ : hs_T}
set_option maxRecDepth 100000 in
set_option maxHeartbeats 4000000 in
theorem wX8_about_e (fu : Nat) (C : hs_Cx p s m args meth c X A yX8_about cX8_about 5 (some .int) wsX8_about) (hem : ad hs_em = X.2.2.1.2.2.2) {H : Heap} {locs : List Loc} {ls : Array Slot} (σ : hs_T) (o : Nat) (a1 : Int32) (a2 : Int32) (a3 : Int32) (hf : fX8_about fu σ o a1 a2 a3 = some (r, τ)) (hB : hs_H X.1 X.2.1 ad A σ H) (hS : va_S A s.heap H locs) (hl : lv_has ls 5 [(0, .ref (ad o)), (1, .int a1), (2, .int a2), (3, .int a3)]) : W p l e rmX8_about s m args below meth c H locs 0 0 (MQ below (hs_Q0 hs_tvi X ad A r τ) args s 0 0 A) (F0 m 0 ls []) := by
  obtain ⟨hx, hb, hml, hr, hts, hown, hlk, hnm, hV, hA0, hA⟩ := id C
  have hown : s.vm.findClass RX8 = some m.cls := hown
  have hK := hV.1
  have hNw := hV.2.1
  unfold fX8_about at hf
  refine lv_aload_n hx hb dX8_about_0 rfl (lv_at hl 0 rfl) ?_
  refine lv_iload_n hx hb dX8_about_1 rfl (lv_at hl 1 rfl) ?_
  refine lv_iload_n hx hb dX8_about_2 rfl (lv_at hl 2 rfl) ?_
  obtain ⟨_, h3, hf⟩ := hs_bi hf
  obtain ⟨v4, σ2, h1, hf⟩ := hs_b2i hf
  refine hs_call0 (va_runV (As := [.int a1, .int a2]) (rest := []) ⟨hx, hb, hml, hown, hts⟩ (ctX8_isPlace l fu σ o a1 a2 X ad H.size _ _ h1) (cwV 2 hts gX8_about_X8_isPlace rfl rfl rfl (by decide +kernel) ⟨Nat.le_of_ble_eq_true rfl, Nat.le_of_ble_eq_true rfl⟩) (hs_preV (hs_recv hK hB (hs_ck_i h3) (by decide) rfl) hV hB hS hA0 hA hem) rfl rfl hl.1 rfl (lv_room (Nat.le_of_ble_eq_true rfl)) dX8_about_3 ⟨Nat.le_of_ble_eq_true rfl, Nat.le_of_ble_eq_true rfl⟩) hB hS hA rfl (fun H locs hB hS => ?_)
  refine lv_if_ne (tgt := 11) hx hb dX8_about_6 (by decide) (fun h5 => ?_) (fun h5 => ?_)
  · have hf := hs_ff h5 hf
    refine lv_iconst (v := 3) hx hb dX8_about_11 (by decide) ?_
    refine lv_iload_n hx hb dX8_about_12 rfl (lv_at hl 1 rfl) ?_
    refine lv_imul hx hb dX8_about_13 ?_
    refine lv_iload_n hx hb dX8_about_14 rfl (lv_at hl 2 rfl) ?_
    refine lv_iadd hx hb dX8_about_15 ?_
    refine lv_istore (lv' := [(4, .int ((3 * a1) + a2)), (0, .ref (ad o)), (1, .int a1), (2, .int a2), (3, .int a3)]) hx hb dX8_about_16 hl (by decide) rfl (fun ls hl => ?_)
    refine lv_iload_n hx hb dX8_about_18 rfl (lv_at hl 4 rfl) ?_
    by_cases h6 : a3 = 0
    · have hf := hs_tt h6 hf
      refine lv_tableIn (tgt := 52) hx hb dX8_about_19 (by rw [h6]; decide) (by rw [h6]; decide) (by rw [h6]; exact rfl) (by decide) ?_
      refine lv_aload_n hx hb dX8_about_52 rfl (lv_at hl 1 rfl) ?_
      obtain ⟨n8, h7, hf⟩ := hs_bi hf
      refine x_getN hx hb hts inX8_about_X8 hown hK hB (by decide) rfl (k := 5) (by decide) rfl h7 (hts _ lkX8_about_0) (fun _ h9 => h9) dX8_about_53 ?_
      refine lv_iload hx hb dX8_about_56 (lv_at hl 0 rfl) ?_
      obtain ⟨v9, h10, hf⟩ := hs_bi hf
      refine x_iald hx hb hK hB h10 dX8_about_58 ?_
      obtain ⟨rfl, rfl⟩ := hs_ri hf
      exact hs_iret hx hb hr hlk hB hS dX8_about_59
    have hf := hs_ff h6 hf
    by_cases h11 : a3 = 1
    · have hf := hs_tt h11 hf
      refine lv_tableIn (tgt := 60) hx hb dX8_about_19 (by rw [h11]; decide) (by rw [h11]; decide) (by rw [h11]; exact rfl) (by decide) ?_
      refine lv_aload_n hx hb dX8_about_60 rfl (lv_at hl 1 rfl) ?_
      obtain ⟨n13, h12, hf⟩ := hs_bi hf
      refine x_getN hx hb hts inX8_about_X8 hown hK hB (by decide) rfl (k := 6) (by decide) rfl h12 (hts _ lkX8_about_1) (fun _ h9 => h9) dX8_about_61 ?_
      refine lv_iload hx hb dX8_about_64 (lv_at hl 0 rfl) ?_
      obtain ⟨v14, h15, hf⟩ := hs_bi hf
      refine x_zald hx hb hK hB h15 dX8_about_66 ?_
      refine lv_if_eq (tgt := 74) hx hb dX8_about_67 (by decide) (fun h16 => ?_) (fun h16 => ?_)
      · have hf := hs_tt h16 hf
        refine lv_iconst (v := 0) hx hb dX8_about_74 (by decide) ?_
        obtain ⟨rfl, rfl⟩ := hs_ri hf
        exact hs_iret hx hb hr hlk hB hS dX8_about_75
      · have hf := hs_ff h16 hf
        refine lv_iconst (v := 1) hx hb dX8_about_70 (by decide) ?_
        refine lv_goto (tgt := 75) hx hb dX8_about_71 (by decide) ?_
        obtain ⟨rfl, rfl⟩ := hs_ri hf
        exact hs_iret hx hb hr hlk hB hS dX8_about_75
    have hf := hs_ff h11 hf
    by_cases h17 : a3 = 2
    · have hf := hs_tt h17 hf
      refine lv_tableIn (tgt := 76) hx hb dX8_about_19 (by rw [h17]; decide) (by rw [h17]; decide) (by rw [h17]; exact rfl) (by decide) ?_
      refine lv_aload_n hx hb dX8_about_76 rfl (lv_at hl 1 rfl) ?_
      obtain ⟨n19, h18, hf⟩ := hs_bi hf
      refine x_getN hx hb hts inX8_about_X8 hown hK hB (by decide) rfl (k := 16) (by decide) rfl h18 (hts _ lkX8_about_2) (fun _ h9 => h9) dX8_about_77 ?_
      refine lv_iload hx hb dX8_about_80 (lv_at hl 0 rfl) ?_
      obtain ⟨v20, h21, hf⟩ := hs_bi hf
      refine x_iald hx hb hK hB h21 dX8_about_82 ?_
      obtain ⟨rfl, rfl⟩ := hs_ri hf
      exact hs_iret hx hb hr hlk hB hS dX8_about_83
    have hf := hs_ff h17 hf
    by_cases h22 : a3 = 3
    · have hf := hs_tt h22 hf
      refine lv_tableIn (tgt := 84) hx hb dX8_about_19 (by rw [h22]; decide) (by rw [h22]; decide) (by rw [h22]; exact rfl) (by decide) ?_
      refine lv_aload_n hx hb dX8_about_84 rfl (lv_at hl 1 rfl) ?_
      obtain ⟨n24, h23, hf⟩ := hs_bi hf
      refine x_getN hx hb hts inX8_about_X8 hown hK hB (by decide) rfl (k := 14) (by decide) rfl h23 (hts _ lkX8_about_3) (fun _ h9 => h9) dX8_about_85 ?_
      refine lv_iload hx hb dX8_about_88 (lv_at hl 0 rfl) ?_
      obtain ⟨v25, h26, hf⟩ := hs_bi hf
      refine x_iald hx hb hK hB h26 dX8_about_90 ?_
      obtain ⟨rfl, rfl⟩ := hs_ri hf
      exact hs_iret hx hb hr hlk hB hS dX8_about_91
    have hf := hs_ff h22 hf
    by_cases h27 : a3 = 4
    · have hf := hs_tt h27 hf
      refine lv_tableIn (tgt := 92) hx hb dX8_about_19 (by rw [h27]; decide) (by rw [h27]; decide) (by rw [h27]; exact rfl) (by decide) ?_
      refine lv_aload_n hx hb dX8_about_92 rfl (lv_at hl 1 rfl) ?_
      obtain ⟨n29, h28, hf⟩ := hs_bi hf
      refine x_getN hx hb hts inX8_about_X8 hown hK hB (by decide) rfl (k := 15) (by decide) rfl h28 (hts _ lkX8_about_4) (fun _ h9 => h9) dX8_about_93 ?_
      refine lv_iload hx hb dX8_about_96 (lv_at hl 0 rfl) ?_
      obtain ⟨v30, h31, hf⟩ := hs_bi hf
      refine x_iald hx hb hK hB h31 dX8_about_98 ?_
      obtain ⟨rfl, rfl⟩ := hs_ri hf
      exact hs_iret hx hb hr hlk hB hS dX8_about_99
    have hf := hs_ff h27 hf
    refine lv_tableOut (tgt := 100) hx hb dX8_about_19 (by have g0 := lv_neT h6 (a := 0) (by decide); have g1 := lv_neT h11 (a := 1) (by decide); have g2 := lv_neT h17 (a := 2) (by decide); have g3 := lv_neT h22 (a := 3) (by decide); have g4 := lv_neT h27 (a := 4) (by decide); omega) (by decide) ?_
    refine lv_iconst (v := (-1)) hx hb dX8_about_100 (by decide) ?_
    obtain ⟨rfl, rfl⟩ := hs_ri hf
    exact hs_iret hx hb hr hlk hB hS dX8_about_101
  · have hf := hs_tt h5 hf
    refine lv_iconst (v := (-1)) hx hb dX8_about_9 (by decide) ?_
    obtain ⟨rfl, rfl⟩ := hs_ri hf
    exact hs_iret hx hb hr hlk hB hS dX8_about_10
end SX8_about
set_option maxRecDepth 100000 in
theorem ctX8_about (l : Launch) (fu : Nat) (σ : hs_T) (o : Nat) (a1 : Int32) (a2 : Int32) (a3 : Int32) : hs_C0 hs_tvi l yX8_about wsX8_about rmX8_about (fun ad => [.ref (ad o), .int a1, .int a2, .int a3]) σ (fX8_about fu σ o a1 a2 a3) := by
  intro X ad sz r τ hf
  refine hs_enter (cc := cX8_about) (maxL := 5) (ret := (some .int)) (by decide) rfl (Nat.le_of_ble_eq_true rfl) ?_
  intro p e s m below meth c ls C hl hem hB hS hsz
  exact wX8_about_e fu C hem σ o a1 a2 a3 hf hB hS hl
/-! ServiceGameModel.isSet(II)Z -/
abbrev rmX8_isSet : Room := { frames := 1, cells := 0, slots := 0, locals := 25 }
theorem lkX8_isSet_0 : Cond.constantLong RX8 158 (500) ∈ wsX8_isSet := by decide +kernel
theorem lkX8_isSet_1 : Cond.constantLong RX8 160 (999) ∈ wsX8_isSet := by decide +kernel
theorem lkX8_isSet_2 : Cond.constantLong RX8 162 (9) ∈ wsX8_isSet := by decide +kernel
theorem lkX8_isSet_3 : Cond.constantLong RX8 164 (100) ∈ wsX8_isSet := by decide +kernel
theorem lkX8_isSet_4 : Cond.constantLong RX8 166 (9999) ∈ wsX8_isSet := by decide +kernel
def fX8_isSet (fu : Nat) (σ : hs_T) (a1 : Int32) (a2 : Int32) : Option (Int32 × hs_T) :=
 if a1 = 0 then
 (hs_b2 (fX8_isIn fu σ a2.toInt64 1 500) fun v4 σ3 =>
 (hs_bz v4).bind fun _ =>
 some (v4, σ3))
 else
 if a1 = 1 then
 (hs_b2 (fX8_isIn fu σ a2.toInt64 0 999) fun v9 σ8 =>
 (hs_bz v9).bind fun _ =>
 some (v9, σ8))
 else
 if a1 = 2 then
 (hs_b2 (fX8_isIn fu σ a2.toInt64 1 9) fun v14 σ13 =>
 (hs_bz v14).bind fun _ =>
 some (v14, σ13))
 else
 if a1 = 3 then
 (hs_b2 (fX8_isIn fu σ a2.toInt64 0 100) fun v19 σ18 =>
 (hs_bz v19).bind fun _ =>
 some (v19, σ18))
 else
 (hs_b2 (fX8_isIn fu σ a2.toInt64 0 9999) fun v23 σ22 =>
 (hs_bz v23).bind fun _ =>
 some (v23, σ22))
section SX8_isSet
variable {p : Program} {l : Launch} {e : Env} {s : State} {m : MethodId} {args : Array Value} {below : List Frame} {meth : Method} {c : Code} {X : hs_X} {ad : Nat → Nat} {A : Nat → Prop} {r : Int32} {τ : hs_T}
set_option maxRecDepth 100000 in
set_option maxHeartbeats 4000000 in
theorem wX8_isSet_e (fu : Nat) (C : hs_Cx p s m args meth c X A yX8_isSet cX8_isSet 2 (some .boolean) wsX8_isSet) (hem : ad hs_em = X.2.2.1.2.2.2) {H : Heap} {locs : List Loc} {ls : Array Slot} (σ : hs_T) (a1 : Int32) (a2 : Int32) (hf : fX8_isSet fu σ a1 a2 = some (r, τ)) (hB : hs_H X.1 X.2.1 ad A σ H) (hS : va_S A s.heap H locs) (hl : lv_has ls 2 [(0, .int a1), (1, .int a2)]) : W p l e rmX8_isSet s m args below meth c H locs 0 0 (MQ below (hs_Q0 hs_tvi X ad A r τ) args s 0 0 A) (F0 m 0 ls []) := by
  obtain ⟨hx, hb, hml, hr, hts, hown, hlk, hnm, hV, hA0, hA⟩ := id C
  have hown : s.vm.findClass RX8 = some m.cls := hown
  have hK := hV.1
  have hNw := hV.2.1
  unfold fX8_isSet at hf
  refine lv_iload_n hx hb dX8_isSet_0 rfl (lv_at hl 0 rfl) ?_
  by_cases h1 : a1 = 0
  · have hf := hs_tt h1 hf
    refine lv_tableIn (tgt := 32) hx hb dX8_isSet_1 (by rw [h1]; decide) (by rw [h1]; decide) (by rw [h1]; exact rfl) (by decide) ?_
    refine lv_iload_n hx hb dX8_isSet_32 rfl (lv_at hl 1 rfl) ?_
    refine lv_i2l hx hb dX8_isSet_33 rfl ?_
    refine lv_lconst (v := 1) hx hb dX8_isSet_34 (by decide) ?_
    refine lv_ldc2 hx hb hown (hts _ lkX8_isSet_0) dX8_isSet_35 ?_
    obtain ⟨v4, σ3, h2, hf⟩ := hs_b2i hf
    refine hs_call0 (va_runS (As := [.long a2.toInt64, .long 1, .long 500]) (rest := []) ⟨hx, hb, hml, hown, hts⟩ (ctX8_isIn l fu σ a2.toInt64 1 500 X ad H.size _ _ h2) (va_cwS 3 hts gX8_isSet_X8_isIn rfl rfl rfl (by decide +kernel) ⟨Nat.le_of_ble_eq_true rfl, Nat.le_of_ble_eq_true rfl⟩) (hs_pre hV hB hS hA0 hA hem) rfl rfl hl.1 rfl (lv_room (Nat.le_of_ble_eq_true rfl)) dX8_isSet_38 ⟨Nat.le_of_ble_eq_true rfl, Nat.le_of_ble_eq_true rfl⟩) hB hS hA rfl (fun H locs hB hS => ?_)
    obtain ⟨_, h5, hf⟩ := hs_bi hf
    obtain ⟨rfl, rfl⟩ := hs_ri hf
    exact hs_zret hx hb hr hlk (hs_bz_i h5) hB hS dX8_isSet_41
  have hf := hs_ff h1 hf
  by_cases h6 : a1 = 1
  · have hf := hs_tt h6 hf
    refine lv_tableIn (tgt := 42) hx hb dX8_isSet_1 (by rw [h6]; decide) (by rw [h6]; decide) (by rw [h6]; exact rfl) (by decide) ?_
    refine lv_iload_n hx hb dX8_isSet_42 rfl (lv_at hl 1 rfl) ?_
    refine lv_i2l hx hb dX8_isSet_43 rfl ?_
    refine lv_lconst (v := 0) hx hb dX8_isSet_44 (by decide) ?_
    refine lv_ldc2 hx hb hown (hts _ lkX8_isSet_1) dX8_isSet_45 ?_
    obtain ⟨v9, σ8, h7, hf⟩ := hs_b2i hf
    refine hs_call0 (va_runS (As := [.long a2.toInt64, .long 0, .long 999]) (rest := []) ⟨hx, hb, hml, hown, hts⟩ (ctX8_isIn l fu σ a2.toInt64 0 999 X ad H.size _ _ h7) (va_cwS 3 hts gX8_isSet_X8_isIn rfl rfl rfl (by decide +kernel) ⟨Nat.le_of_ble_eq_true rfl, Nat.le_of_ble_eq_true rfl⟩) (hs_pre hV hB hS hA0 hA hem) rfl rfl hl.1 rfl (lv_room (Nat.le_of_ble_eq_true rfl)) dX8_isSet_48 ⟨Nat.le_of_ble_eq_true rfl, Nat.le_of_ble_eq_true rfl⟩) hB hS hA rfl (fun H locs hB hS => ?_)
    obtain ⟨_, h10, hf⟩ := hs_bi hf
    obtain ⟨rfl, rfl⟩ := hs_ri hf
    exact hs_zret hx hb hr hlk (hs_bz_i h10) hB hS dX8_isSet_51
  have hf := hs_ff h6 hf
  by_cases h11 : a1 = 2
  · have hf := hs_tt h11 hf
    refine lv_tableIn (tgt := 52) hx hb dX8_isSet_1 (by rw [h11]; decide) (by rw [h11]; decide) (by rw [h11]; exact rfl) (by decide) ?_
    refine lv_iload_n hx hb dX8_isSet_52 rfl (lv_at hl 1 rfl) ?_
    refine lv_i2l hx hb dX8_isSet_53 rfl ?_
    refine lv_lconst (v := 1) hx hb dX8_isSet_54 (by decide) ?_
    refine lv_ldc2 hx hb hown (hts _ lkX8_isSet_2) dX8_isSet_55 ?_
    obtain ⟨v14, σ13, h12, hf⟩ := hs_b2i hf
    refine hs_call0 (va_runS (As := [.long a2.toInt64, .long 1, .long 9]) (rest := []) ⟨hx, hb, hml, hown, hts⟩ (ctX8_isIn l fu σ a2.toInt64 1 9 X ad H.size _ _ h12) (va_cwS 3 hts gX8_isSet_X8_isIn rfl rfl rfl (by decide +kernel) ⟨Nat.le_of_ble_eq_true rfl, Nat.le_of_ble_eq_true rfl⟩) (hs_pre hV hB hS hA0 hA hem) rfl rfl hl.1 rfl (lv_room (Nat.le_of_ble_eq_true rfl)) dX8_isSet_58 ⟨Nat.le_of_ble_eq_true rfl, Nat.le_of_ble_eq_true rfl⟩) hB hS hA rfl (fun H locs hB hS => ?_)
    obtain ⟨_, h15, hf⟩ := hs_bi hf
    obtain ⟨rfl, rfl⟩ := hs_ri hf
    exact hs_zret hx hb hr hlk (hs_bz_i h15) hB hS dX8_isSet_61
  have hf := hs_ff h11 hf
  by_cases h16 : a1 = 3
  · have hf := hs_tt h16 hf
    refine lv_tableIn (tgt := 62) hx hb dX8_isSet_1 (by rw [h16]; decide) (by rw [h16]; decide) (by rw [h16]; exact rfl) (by decide) ?_
    refine lv_iload_n hx hb dX8_isSet_62 rfl (lv_at hl 1 rfl) ?_
    refine lv_i2l hx hb dX8_isSet_63 rfl ?_
    refine lv_lconst (v := 0) hx hb dX8_isSet_64 (by decide) ?_
    refine lv_ldc2 hx hb hown (hts _ lkX8_isSet_3) dX8_isSet_65 ?_
    obtain ⟨v19, σ18, h17, hf⟩ := hs_b2i hf
    refine hs_call0 (va_runS (As := [.long a2.toInt64, .long 0, .long 100]) (rest := []) ⟨hx, hb, hml, hown, hts⟩ (ctX8_isIn l fu σ a2.toInt64 0 100 X ad H.size _ _ h17) (va_cwS 3 hts gX8_isSet_X8_isIn rfl rfl rfl (by decide +kernel) ⟨Nat.le_of_ble_eq_true rfl, Nat.le_of_ble_eq_true rfl⟩) (hs_pre hV hB hS hA0 hA hem) rfl rfl hl.1 rfl (lv_room (Nat.le_of_ble_eq_true rfl)) dX8_isSet_68 ⟨Nat.le_of_ble_eq_true rfl, Nat.le_of_ble_eq_true rfl⟩) hB hS hA rfl (fun H locs hB hS => ?_)
    obtain ⟨_, h20, hf⟩ := hs_bi hf
    obtain ⟨rfl, rfl⟩ := hs_ri hf
    exact hs_zret hx hb hr hlk (hs_bz_i h20) hB hS dX8_isSet_71
  have hf := hs_ff h16 hf
  refine lv_tableOut (tgt := 72) hx hb dX8_isSet_1 (by have g0 := lv_neT h1 (a := 0) (by decide); have g1 := lv_neT h6 (a := 1) (by decide); have g2 := lv_neT h11 (a := 2) (by decide); have g3 := lv_neT h16 (a := 3) (by decide); omega) (by decide) ?_
  refine lv_iload_n hx hb dX8_isSet_72 rfl (lv_at hl 1 rfl) ?_
  refine lv_i2l hx hb dX8_isSet_73 rfl ?_
  refine lv_lconst (v := 0) hx hb dX8_isSet_74 (by decide) ?_
  refine lv_ldc2 hx hb hown (hts _ lkX8_isSet_4) dX8_isSet_75 ?_
  obtain ⟨v23, σ22, h21, hf⟩ := hs_b2i hf
  refine hs_call0 (va_runS (As := [.long a2.toInt64, .long 0, .long 9999]) (rest := []) ⟨hx, hb, hml, hown, hts⟩ (ctX8_isIn l fu σ a2.toInt64 0 9999 X ad H.size _ _ h21) (va_cwS 3 hts gX8_isSet_X8_isIn rfl rfl rfl (by decide +kernel) ⟨Nat.le_of_ble_eq_true rfl, Nat.le_of_ble_eq_true rfl⟩) (hs_pre hV hB hS hA0 hA hem) rfl rfl hl.1 rfl (lv_room (Nat.le_of_ble_eq_true rfl)) dX8_isSet_78 ⟨Nat.le_of_ble_eq_true rfl, Nat.le_of_ble_eq_true rfl⟩) hB hS hA rfl (fun H locs hB hS => ?_)
  obtain ⟨_, h24, hf⟩ := hs_bi hf
  obtain ⟨rfl, rfl⟩ := hs_ri hf
  exact hs_zret hx hb hr hlk (hs_bz_i h24) hB hS dX8_isSet_81
end SX8_isSet
set_option maxRecDepth 100000 in
theorem ctX8_isSet (l : Launch) (fu : Nat) (σ : hs_T) (a1 : Int32) (a2 : Int32) : hs_C0 hs_tvi l yX8_isSet wsX8_isSet rmX8_isSet (fun ad => [.int a1, .int a2]) σ (fX8_isSet fu σ a1 a2) := by
  intro X ad sz r τ hf
  refine hs_enter (cc := cX8_isSet) (maxL := 2) (ret := (some .boolean)) (by decide) rfl (Nat.le_of_ble_eq_true rfl) ?_
  intro p e s m below meth c ls C hl hem hB hS hsz
  exact wX8_isSet_e fu C hem σ a1 a2 hf hB hS hl
/-! ServiceGameModel.set(II)I -/
abbrev rmX8_set : Room := { frames := 2, cells := 0, slots := 0, locals := 46 }
theorem inX8_set_X8 : ∀ w ∈ wsX80, w ∈ wsX8_set := fun _ h => List.mem_cons_of_mem _ (List.mem_append_right _ h)
theorem lkX8_set_0 : Cond.constantLong RX8 168 (6) ∈ wsX8_set := by decide +kernel
theorem lkX8_set_1 : Cond.fieldLink RX8 118 "ServiceGameModel" "rounds" "I" ∈ wsX8_set := by decide +kernel
theorem lkX8_set_2 : Cond.fieldLink RX8 47 "ServiceGameModel" "set" "[I" ∈ wsX8_set := by decide +kernel
def fX8_set_45 (fu : Nat)  (σ : hs_T) (x0 : Nat) (x1 : Int32) (x2 : Int32) : Option (Int32 × hs_T) :=
 (hs_gN σ 10 x0 17).bind fun n14 =>
 (hs_ld σ 11 n14 x1).bind fun v15 =>
 (hs_gN σ 10 x0 17).bind fun n18 =>
 (hs_st σ 11 n18 x1 x2).bind fun σ19 =>
 some (v15, σ19)
def fX8_set_35 (fu : Nat)  (σ : hs_T) (x0 : Nat) (x1 : Int32) (x2 : Int32) : Option (Int32 × hs_T) :=
 (hs_gI σ 10 x0 1).bind fun v11 =>
 if v11 ≤ 0 then
 (fX8_set_45 fu σ x0 x1 x2)
 else
 (some ((-3), σ))
def fX8_set (fu : Nat) (σ : hs_T) (o : Nat) (a1 : Int32) (a2 : Int32) : Option (Int32 × hs_T) :=
 hs_b2 (fX8_isIn fu σ a1.toInt64 0 6) fun v3 σ2 =>
 if v3 = 0 then
 (some ((-1), σ2))
 else
 (hs_b2 (fX8_isSet fu σ2 a1 a2) fun v7 σ6 =>
 if v7 = 0 then
 (some ((-2), σ6))
 else
 (if a1 = 1 then
 (fX8_set_35 fu σ6 o a1 a2)
 else
 (if a1 = 2 then
 (fX8_set_35 fu σ6 o a1 a2)
 else
 (fX8_set_45 fu σ6 o a1 a2))))
section SX8_set
variable {p : Program} {l : Launch} {e : Env} {s : State} {m : MethodId} {args : Array Value} {below : List Frame} {meth : Method} {c : Code} {X : hs_X} {ad : Nat → Nat} {A : Nat → Prop} {r : Int32} {τ : hs_T}
set_option maxRecDepth 100000 in
set_option maxHeartbeats 4000000 in
theorem wX8_set_45 (fu : Nat) (C : hs_Cx p s m args meth c X A yX8_set cX8_set 4 (some .int) wsX8_set) (hem : ad hs_em = X.2.2.1.2.2.2)  {H : Heap} {locs : List Loc} {ls : Array Slot} (σ : hs_T) (x0 : Nat) (x1 : Int32) (x2 : Int32) (hf : fX8_set_45 fu  σ x0 x1 x2 = some (r, τ)) (hB : hs_H X.1 X.2.1 ad A σ H) (hS : va_S A s.heap H locs) (hl : lv_has ls 4 [(0, .ref (ad x0)), (1, .int x1), (2, .int x2)]) : W p l e rmX8_set s m args below meth c H locs 0 0 (MQ below (hs_Q0 hs_tvi X ad A r τ) args s 0 0 A) (F0 m 45 ls []) := by
  obtain ⟨hx, hb, hml, hr, hts, hown, hlk, hnm, hV, hA0, hA⟩ := id C
  have hown : s.vm.findClass RX8 = some m.cls := hown
  have hK := hV.1
  have hNw := hV.2.1
  unfold fX8_set_45 at hf
  refine lv_aload_n hx hb dX8_set_45 rfl (lv_at hl 0 rfl) ?_
  obtain ⟨n14, h13, hf⟩ := hs_bi hf
  refine x_getN hx hb hts inX8_set_X8 hown hK hB (by decide) rfl (k := 17) (by decide) rfl h13 (hts _ lkX8_set_2) (fun _ h9 => h9) dX8_set_46 ?_
  refine lv_iload_n hx hb dX8_set_49 rfl (lv_at hl 1 rfl) ?_
  obtain ⟨v15, h16, hf⟩ := hs_bi hf
  refine x_iald hx hb hK hB h16 dX8_set_50 ?_
  refine lv_istore_n (lv' := [(3, .int v15), (0, .ref (ad x0)), (1, .int x1), (2, .int x2)]) hx hb dX8_set_51 rfl hl (by decide) rfl (fun ls hl => ?_)
  refine lv_aload_n hx hb dX8_set_52 rfl (lv_at hl 1 rfl) ?_
  obtain ⟨n18, h17, hf⟩ := hs_bi hf
  refine x_getN hx hb hts inX8_set_X8 hown hK hB (by decide) rfl (k := 17) (by decide) rfl h17 (hts _ lkX8_set_2) (fun _ h9 => h9) dX8_set_53 ?_
  refine lv_iload_n hx hb dX8_set_56 rfl (lv_at hl 2 rfl) ?_
  refine lv_iload_n hx hb dX8_set_57 rfl (lv_at hl 3 rfl) ?_
  obtain ⟨σ19, h20, hf⟩ := hs_bi hf
  refine x_iast hx hb hK hB hS h20 dX8_set_58 (fun H locs hB hS => ?_)
  refine lv_iload_n hx hb dX8_set_59 rfl (lv_at hl 0 rfl) ?_
  obtain ⟨rfl, rfl⟩ := hs_ri hf
  exact hs_iret hx hb hr hlk hB hS dX8_set_60
set_option maxRecDepth 100000 in
set_option maxHeartbeats 4000000 in
theorem wX8_set_35 (fu : Nat) (C : hs_Cx p s m args meth c X A yX8_set cX8_set 4 (some .int) wsX8_set) (hem : ad hs_em = X.2.2.1.2.2.2)  {H : Heap} {locs : List Loc} {ls : Array Slot} (σ : hs_T) (x0 : Nat) (x1 : Int32) (x2 : Int32) (hf : fX8_set_35 fu  σ x0 x1 x2 = some (r, τ)) (hB : hs_H X.1 X.2.1 ad A σ H) (hS : va_S A s.heap H locs) (hl : lv_has ls 4 [(0, .ref (ad x0)), (1, .int x1), (2, .int x2)]) : W p l e rmX8_set s m args below meth c H locs 0 0 (MQ below (hs_Q0 hs_tvi X ad A r τ) args s 0 0 A) (F0 m 35 ls []) := by
  obtain ⟨hx, hb, hml, hr, hts, hown, hlk, hnm, hV, hA0, hA⟩ := id C
  have hown : s.vm.findClass RX8 = some m.cls := hown
  have hK := hV.1
  have hNw := hV.2.1
  unfold fX8_set_35 at hf
  refine lv_aload_n hx hb dX8_set_35 rfl (lv_at hl 0 rfl) ?_
  obtain ⟨v11, h10, hf⟩ := hs_bi hf
  refine x_getI hx hb hts inX8_set_X8 hown hK hB (by decide) rfl (k := 1) (by decide) rfl h10 (hts _ lkX8_set_1) (fun _ h9 => h9) dX8_set_36 ?_
  refine lv_if_le (tgt := 45) hx hb dX8_set_39 (by decide) (fun h12 => ?_) (fun h12 => ?_)
  · have hf := hs_tt h12 hf
    exact wX8_set_45 fu C hem σ x0 x1 x2 hf hB hS hl
  · have hf := hs_ff h12 hf
    refine lv_bipush (v := (-3)) hx hb dX8_set_42 (by decide) ?_
    obtain ⟨rfl, rfl⟩ := hs_ri hf
    exact hs_iret hx hb hr hlk hB hS dX8_set_44
set_option maxRecDepth 100000 in
set_option maxHeartbeats 4000000 in
theorem wX8_set_e (fu : Nat) (C : hs_Cx p s m args meth c X A yX8_set cX8_set 4 (some .int) wsX8_set) (hem : ad hs_em = X.2.2.1.2.2.2) {H : Heap} {locs : List Loc} {ls : Array Slot} (σ : hs_T) (o : Nat) (a1 : Int32) (a2 : Int32) (hf : fX8_set fu σ o a1 a2 = some (r, τ)) (hB : hs_H X.1 X.2.1 ad A σ H) (hS : va_S A s.heap H locs) (hl : lv_has ls 4 [(0, .ref (ad o)), (1, .int a1), (2, .int a2)]) : W p l e rmX8_set s m args below meth c H locs 0 0 (MQ below (hs_Q0 hs_tvi X ad A r τ) args s 0 0 A) (F0 m 0 ls []) := by
  obtain ⟨hx, hb, hml, hr, hts, hown, hlk, hnm, hV, hA0, hA⟩ := id C
  have hown : s.vm.findClass RX8 = some m.cls := hown
  have hK := hV.1
  have hNw := hV.2.1
  unfold fX8_set at hf
  refine lv_iload_n hx hb dX8_set_0 rfl (lv_at hl 1 rfl) ?_
  refine lv_i2l hx hb dX8_set_1 rfl ?_
  refine lv_lconst (v := 0) hx hb dX8_set_2 (by decide) ?_
  refine lv_ldc2 hx hb hown (hts _ lkX8_set_0) dX8_set_3 ?_
  obtain ⟨v3, σ2, h1, hf⟩ := hs_b2i hf
  refine hs_call0 (va_runS (As := [.long a1.toInt64, .long 0, .long 6]) (rest := []) ⟨hx, hb, hml, hown, hts⟩ (ctX8_isIn l fu σ a1.toInt64 0 6 X ad H.size _ _ h1) (va_cwS 3 hts gX8_set_X8_isIn rfl rfl rfl (by decide +kernel) ⟨Nat.le_of_ble_eq_true rfl, Nat.le_of_ble_eq_true rfl⟩) (hs_pre hV hB hS hA0 hA hem) rfl rfl hl.1 rfl (lv_room (Nat.le_of_ble_eq_true rfl)) dX8_set_6 ⟨Nat.le_of_ble_eq_true rfl, Nat.le_of_ble_eq_true rfl⟩) hB hS hA rfl (fun H locs hB hS => ?_)
  refine lv_if_ne (tgt := 14) hx hb dX8_set_9 (by decide) (fun h4 => ?_) (fun h4 => ?_)
  · have hf := hs_ff h4 hf
    refine lv_iload_n hx hb dX8_set_14 rfl (lv_at hl 1 rfl) ?_
    refine lv_iload_n hx hb dX8_set_15 rfl (lv_at hl 2 rfl) ?_
    obtain ⟨v7, σ6, h5, hf⟩ := hs_b2i hf
    refine hs_call0 (va_runS (As := [.int a1, .int a2]) (rest := []) ⟨hx, hb, hml, hown, hts⟩ (ctX8_isSet l fu σ2 a1 a2 X ad H.size _ _ h5) (va_cwS 2 hts gX8_set_X8_isSet rfl rfl rfl (by decide +kernel) ⟨Nat.le_of_ble_eq_true rfl, Nat.le_of_ble_eq_true rfl⟩) (hs_pre hV hB hS hA0 hA hem) rfl rfl hl.1 rfl (lv_room (Nat.le_of_ble_eq_true rfl)) dX8_set_16 ⟨Nat.le_of_ble_eq_true rfl, Nat.le_of_ble_eq_true rfl⟩) hB hS hA rfl (fun H locs hB hS => ?_)
    refine lv_if_ne (tgt := 25) hx hb dX8_set_19 (by decide) (fun h8 => ?_) (fun h8 => ?_)
    · have hf := hs_ff h8 hf
      refine lv_iload_n hx hb dX8_set_25 rfl (lv_at hl 1 rfl) ?_
      refine lv_iconst (v := 1) hx hb dX8_set_26 (by decide) ?_
      refine lv_icmp_eq (tgt := 35) hx hb dX8_set_27 (by decide) (fun h9 => ?_) (fun h9 => ?_)
      · have hf := hs_tt h9 hf
        exact wX8_set_35 fu C hem σ6 o a1 a2 hf hB hS hl
      · have hf := hs_ff h9 hf
        refine lv_iload_n hx hb dX8_set_30 rfl (lv_at hl 1 rfl) ?_
        refine lv_iconst (v := 2) hx hb dX8_set_31 (by decide) ?_
        refine lv_icmp_ne (tgt := 45) hx hb dX8_set_32 (by decide) (fun h21 => ?_) (fun h21 => ?_)
        · have hf := hs_ff h21 hf
          exact wX8_set_45 fu C hem σ6 o a1 a2 hf hB hS hl
        · have hf := hs_tt h21 hf
          exact wX8_set_35 fu C hem σ6 o a1 a2 hf hB hS hl
    · have hf := hs_tt h8 hf
      refine lv_bipush (v := (-2)) hx hb dX8_set_22 (by decide) ?_
      obtain ⟨rfl, rfl⟩ := hs_ri hf
      exact hs_iret hx hb hr hlk hB hS dX8_set_24
  · have hf := hs_tt h4 hf
    refine lv_iconst (v := (-1)) hx hb dX8_set_12 (by decide) ?_
    obtain ⟨rfl, rfl⟩ := hs_ri hf
    exact hs_iret hx hb hr hlk hB hS dX8_set_13
end SX8_set
set_option maxRecDepth 100000 in
theorem ctX8_set (l : Launch) (fu : Nat) (σ : hs_T) (o : Nat) (a1 : Int32) (a2 : Int32) : hs_C0 hs_tvi l yX8_set wsX8_set rmX8_set (fun ad => [.ref (ad o), .int a1, .int a2]) σ (fX8_set fu σ o a1 a2) := by
  intro X ad sz r τ hf
  refine hs_enter (cc := cX8_set) (maxL := 4) (ret := (some .int)) (by decide) rfl (Nat.le_of_ble_eq_true rfl) ?_
  intro p e s m below meth c ls C hl hem hB hS hsz
  exact wX8_set_e fu C hem σ o a1 a2 hf hB hS hl
