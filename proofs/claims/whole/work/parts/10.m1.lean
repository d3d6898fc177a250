/-! ServiceGameModel.isTeam(I)Z -/
abbrev rmX8_isTeam : Room := { frames := 0, cells := 0, slots := 0, locals := 0 }
theorem inX8_isTeam_X8 : ∀ w ∈ wsX80, w ∈ wsX8_isTeam := fun _ h => List.mem_cons_of_mem _ (List.mem_append_right _ h)
theorem lkX8_isTeam_0 : Cond.fieldLink RX8 104 "ServiceGameModel" "teams" "I" ∈ wsX8_isTeam := by decide +kernel
def fX8_isTeam (fu : Nat) (σ : hs_T) (o : Nat) (a1 : Int32) : Option (Int32 × hs_T) :=
if a1 < 0 then
(some (0, σ))
else
((hs_gI σ 10 o 0).bind fun v3 =>
if v3 ≤ a1 then
(some (0, σ))
else
(some (1, σ)))
section SX8_isTeam
variable {p : Program} {l : Launch} {e : Env} {s : State} {m : MethodId} {args : Array Value} {below : List Frame} {meth : Method} {c : Code} {X : hs_X} {ad : Nat → Nat} {A : Nat → Prop} {r : Int32} {τ : hs_T}
set_option maxRecDepth 100000 in
set_option maxHeartbeats 4000000 in
theorem wX8_isTeam_e (fu : Nat) (C : hs_Cx p s m args meth c X A yX8_isTeam cX8_isTeam 2 (some .boolean) wsX8_isTeam) (hem : ad hs_em = X.2.2.1.2.2.2) {H : Heap} {locs : List Loc} {ls : Array Slot} (σ : hs_T) (o : Nat) (a1 : Int32) (hf : fX8_isTeam fu σ o a1 = some (r, τ)) (hB : hs_H X.1 X.2.1 ad A σ H) (hS : va_S A s.heap H locs) (hl : lv_has ls 2 [(0, .ref (ad o)), (1, .int a1)]) : W p l e rmX8_isTeam s m args below meth c H locs 0 0 (MQ below (hs_Q0 hs_tvi X ad A r τ) args s 0 0 A) (F0 m 0 ls []) := by
  obtain ⟨hx, hb, hml, hr, hts, hown, hlk, hnm, hV, hA0, hA⟩ := id C
  have hown : s.vm.findClass RX8 = some m.cls := hown
  have hK := hV.1
  have hNw := hV.2.1
  unfold fX8_isTeam at hf
  refine lv_iload_n hx hb dX8_isTeam_0 rfl (lv_at hl 1 rfl) ?_
  refine lv_if_lt (tgt := 16) hx hb dX8_isTeam_1 (by decide) (fun h1 => ?_) (fun h1 => ?_)
  · have hf := hs_tt h1 hf
    refine lv_iconst (v := 0) hx hb dX8_isTeam_16 (by decide) ?_
    obtain ⟨rfl, rfl⟩ := hs_ri hf
    exact hs_zret hx hb hr hlk (by decide) hB hS dX8_isTeam_17
  · have hf := hs_ff h1 hf
    refine lv_iload_n hx hb dX8_isTeam_4 rfl (lv_at hl 1 rfl) ?_
    refine lv_aload_n hx hb dX8_isTeam_5 rfl (lv_at hl 0 rfl) ?_
    obtain ⟨v3, h2, hf⟩ := hs_bi hf
    refine x_getI hx hb hts inX8_isTeam_X8 hown hK hB (by decide) rfl (k := 0) (by decide) rfl h2 (hts _ lkX8_isTeam_0) (fun _ h9 => h9) dX8_isTeam_6 ?_
    refine lv_icmp_ge (tgt := 16) hx hb dX8_isTeam_9 (by decide) (fun h4 => ?_) (fun h4 => ?_)
    · have hf := hs_tt h4 hf
      refine lv_iconst (v := 0) hx hb dX8_isTeam_16 (by decide) ?_
      obtain ⟨rfl, rfl⟩ := hs_ri hf
      exact hs_zret hx hb hr hlk (by decide) hB hS dX8_isTeam_17
    · have hf := hs_ff h4 hf
      refine lv_iconst (v := 1) hx hb dX8_isTeam_12 (by decide) ?_
      refine lv_goto (tgt := 17) hx hb dX8_isTeam_13 (by decide) ?_
      obtain ⟨rfl, rfl⟩ := hs_ri hf
      exact hs_zret hx hb hr hlk (by decide) hB hS dX8_isTeam_17
end SX8_isTeam
set_option maxRecDepth 100000 in
theorem ctX8_isTeam (l : Launch) (fu : Nat) (σ : hs_T) (o : Nat) (a1 : Int32) : hs_C0 hs_tvi l yX8_isTeam wsX8_isTeam rmX8_isTeam (fun ad => [.ref (ad o), .int a1]) σ (fX8_isTeam fu σ o a1) := by
  intro X ad sz r τ hf
  refine hs_enter (cc := cX8_isTeam) (maxL := 2) (ret := (some .boolean)) (by decide) rfl (Nat.le_of_ble_eq_true rfl) ?_
  intro p e s m below meth c ls C hl hem hB hS hsz
  exact wX8_isTeam_e fu C hem σ o a1 hf hB hS hl
/-! ServiceGameModel.isIn(JJJ)Z -/
abbrev rmX8_isIn : Room := { frames := 0, cells := 0, slots := 0, locals := 0 }
def fX8_isIn (fu : Nat) (σ : hs_T) (a1 : Int64) (a2 : Int64) (a3 : Int64) : Option (Int32 × hs_T) :=
if (lg_cmp a1 a2) < 0 then
(some (0, σ))
else
(if 0 < (lg_cmp a1 a3) then
(some (0, σ))
else
(some (1, σ)))
section SX8_isIn
variable {p : Program} {l : Launch} {e : Env} {s : State} {m : MethodId} {args : Array Value} {below : List Frame} {meth : Method} {c : Code} {X : hs_X} {ad : Nat → Nat} {A : Nat → Prop} {r : Int32} {τ : hs_T}
set_option maxRecDepth 100000 in
set_option maxHeartbeats 4000000 in
theorem wX8_isIn_e (fu : Nat) (C : hs_Cx p s m args meth c X A yX8_isIn cX8_isIn 6 (some .boolean) wsX8_isIn) (hem : ad hs_em = X.2.2.1.2.2.2) {H : Heap} {locs : List Loc} {ls : Array Slot} (σ : hs_T) (a1 : Int64) (a2 : Int64) (a3 : Int64) (hf : fX8_isIn fu σ a1 a2 a3 = some (r, τ)) (hB : hs_H X.1 X.2.1 ad A σ H) (hS : va_S A s.heap H locs) (hl : lv_has ls 6 [(0, .long a1), (2, .long a2), (4, .long a3)]) : W p l e rmX8_isIn s m args below meth c H locs 0 0 (MQ below (hs_Q0 hs_tvi X ad A r τ) args s 0 0 A) (F0 m 0 ls []) := by
  obtain ⟨hx, hb, hml, hr, hts, hown, hlk, hnm, hV, hA0, hA⟩ := id C
  have hown : s.vm.findClass RX8 = some m.cls := hown
  have hK := hV.1
  have hNw := hV.2.1
  unfold fX8_isIn at hf
  refine lv_lload_n hx hb dX8_isIn_0 rfl (lv_at hl 0 rfl) ?_
  refine lv_lload_n hx hb dX8_isIn_1 rfl (lv_at hl 1 rfl) ?_
  refine W.lcmp hx hb dX8_isIn_2 ?_
  refine lv_if_lt (tgt := 17) hx hb dX8_isIn_3 (by decide) (fun h1 => ?_) (fun h1 => ?_)
  · have hf := hs_tt h1 hf
    refine lv_iconst (v := 0) hx hb dX8_isIn_17 (by decide) ?_
    obtain ⟨rfl, rfl⟩ := hs_ri hf
    exact hs_zret hx hb hr hlk (by decide) hB hS dX8_isIn_18
  · have hf := hs_ff h1 hf
    refine lv_lload_n hx hb dX8_isIn_6 rfl (lv_at hl 0 rfl) ?_
    refine lv_lload hx hb dX8_isIn_7 (lv_at hl 2 rfl) ?_
    refine W.lcmp hx hb dX8_isIn_9 ?_
    refine lv_if_gt (tgt := 17) hx hb dX8_isIn_10 (by decide) (fun h2 => ?_) (fun h2 => ?_)
    · have hf := hs_tt h2 hf
      refine lv_iconst (v := 0) hx hb dX8_isIn_17 (by decide) ?_
      obtain ⟨rfl, rfl⟩ := hs_ri hf
      exact hs_zret hx hb hr hlk (by decide) hB hS dX8_isIn_18
    · have hf := hs_ff h2 hf
      refine lv_iconst (v := 1) hx hb dX8_isIn_13 (by decide) ?_
      refine lv_goto (tgt := 18) hx hb dX8_isIn_14 (by decide) ?_
      obtain ⟨rfl, rfl⟩ := hs_ri hf
      exact hs_zret hx hb hr hlk (by decide) hB hS dX8_isIn_18
end SX8_isIn
set_option maxRecDepth 100000 in
theorem ctX8_isIn (l : Launch) (fu : Nat) (σ : hs_T) (a1 : Int64) (a2 : Int64) (a3 : Int64) : hs_C0 hs_tvi l yX8_isIn wsX8_isIn rmX8_isIn (fun ad => [.long a1, .long a2, .long a3]) σ (fX8_isIn fu σ a1 a2 a3) := by
  intro X ad sz r τ hf
  refine hs_enter (cc := cX8_isIn) (maxL := 6) (ret := (some .boolean)) (by decide) rfl (Nat.le_of_ble_eq_true rfl) ?_
  intro p e s m below meth c ls C hl hem hB hS hsz
  exact wX8_isIn_e fu C hem σ a1 a2 a3 hf hB hS hl
/-! ServiceGameModel.isPlace(II)Z -/
abbrev rmX8_isPlace : Room := { frames := 1, cells := 0, slots := 0, locals := 25 }
theorem lkX8_isPlace_0 : Cond.constantLong RX8 112 (2) ∈ wsX8_isPlace := by decide +kernel
def fX8_isPlace (fu : Nat) (σ : hs_T) (o : Nat) (a1 : Int32) (a2 : Int32) : Option (Int32 × hs_T) :=
(hs_ck σ 10 o).bind fun _ =>
hs_b2 (fX8_isTeam fu σ o a1) fun v4 σ2 =>
if v4 = 0 then
(some (0, σ2))
else
(hs_b2 (fX8_isIn fu σ2 a2.toInt64 0 2) fun v8 σ7 =>
if v8 = 0 then
(some (0, σ7))
else
(some (1, σ7)))
section SX8_isPlace
variable {p : Program} {l : Launch} {e : Env} {s : State} {m : MethodId} {args : Array Value} {below : List Frame} {meth : Method} {c : Code} {X : hs_X} {ad : Nat → Nat} {A : Nat → Prop} {r : Int32} {τ : hs_T}
set_option maxRecDepth 100000 in
set_option maxHeartbeats 4000000 in
theorem wX8_isPlace_e (fu : Nat) (C : hs_Cx p s m args meth c X A yX8_isPlace cX8_isPlace 3 (some .boolean) wsX8_isPlace) (hem : ad hs_em = X.2.2.1.2.2.2) {H : Heap} {locs : List Loc} {ls : Array Slot} (σ : hs_T) (o : Nat) (a1 : Int32) (a2 : Int32) (hf : fX8_isPlace fu σ o a1 a2 = some (r, τ)) (hB : hs_H X.1 X.2.1 ad A σ H) (hS : va_S A s.heap H locs) (hl : lv_has ls 3 [(0, .ref (ad o)), (1, .int a1), (2, .int a2)]) : W p l e rmX8_isPlace s m args below meth c H locs 0 0 (MQ below (hs_Q0 hs_tvi X ad A r τ) args s 0 0 A) (F0 m 0 ls []) := by
  obtain ⟨hx, hb, hml, hr, hts, hown, hlk, hnm, hV, hA0, hA⟩ := id C
  have hown : s.vm.findClass RX8 = some m.cls := hown
  have hK := hV.1
  have hNw := hV.2.1
  unfold fX8_isPlace at hf
  refine lv_aload_n hx hb dX8_isPlace_0 rfl (lv_at hl 0 rfl) ?_
  refine lv_iload_n hx hb dX8_isPlace_1 rfl (lv_at hl 1 rfl) ?_
  obtain ⟨_, h3, hf⟩ := hs_bi hf
  obtain ⟨v4, σ2, h1, hf⟩ := hs_b2i hf
  refine hs_call0 (va_runV (As := [.int a1]) (rest := []) ⟨hx, hb, hml, hown, hts⟩ (ctX8_isTeam l fu σ o a1 X ad H.size _ _ h1) (cwV 1 hts gX8_isPlace_X8_isTeam rfl rfl rfl (by decide +kernel) ⟨Nat.le_of_ble_eq_true rfl, Nat.le_of_ble_eq_true rfl⟩) (hs_preV (hs_recv hK hB (hs_ck_i h3) (by decide) rfl) hV hB hS hA0 hA hem) rfl rfl hl.1 rfl (lv_room (Nat.le_of_ble_eq_true rfl)) dX8_isPlace_2 ⟨Nat.le_of_ble_eq_true rfl, Nat.le_of_ble_eq_true rfl⟩) hB hS hA rfl (fun H locs hB hS => ?_)
  refine lv_if_eq (tgt := 24) hx hb dX8_isPlace_5 (by decide) (fun h5 => ?_) (fun h5 => ?_)
  · have hf := hs_tt h5 hf
    refine lv_iconst (v := 0) hx hb dX8_isPlace_24 (by decide) ?_
    obtain ⟨rfl, rfl⟩ := hs_ri hf
    exact hs_zret hx hb hr hlk (by decide) hB hS dX8_isPlace_25
  · have hf := hs_ff h5 hf
    refine lv_iload_n hx hb dX8_isPlace_8 rfl (lv_at hl 2 rfl) ?_
    refine lv_i2l hx hb dX8_isPlace_9 rfl ?_
    refine lv_lconst (v := 0) hx hb dX8_isPlace_10 (by decide) ?_
    refine lv_ldc2 hx hb hown (hts _ lkX8_isPlace_0) dX8_isPlace_11 ?_
    obtain ⟨v8, σ7, h6, hf⟩ := hs_b2i hf
    refine hs_call0 (va_runS (As := [.long a2.toInt64, .long 0, .long 2]) (rest := []) ⟨hx, hb, hml, hown, hts⟩ (ctX8_isIn l fu σ2 a2.toInt64 0 2 X ad H.size _ _ h6) (va_cwS 3 hts gX8_isPlace_X8_isIn rfl rfl rfl (by decide +kernel) ⟨Nat.le_of_ble_eq_true rfl, Nat.le_of_ble_eq_true rfl⟩) (hs_pre hV hB hS hA0 hA hem) rfl rfl hl.1 rfl (lv_room (Nat.le_of_ble_eq_true rfl)) dX8_isPlace_14 ⟨Nat.le_of_ble_eq_true rfl, Nat.le_of_ble_eq_true rfl⟩) hB hS hA rfl (fun H locs hB hS => ?_)
    refine lv_if_eq (tgt := 24) hx hb dX8_isPlace_17 (by decide) (fun h9 => ?_) (fun h9 => ?_)
    · have hf := hs_tt h9 hf
      refine lv_iconst (v := 0) hx hb dX8_isPlace_24 (by decide) ?_
      obtain ⟨rfl, rfl⟩ := hs_ri hf
      exact hs_zret hx hb hr hlk (by decide) hB hS dX8_isPlace_25
    · have hf := hs_ff h9 hf
      refine lv_iconst (v := 1) hx hb dX8_isPlace_20 (by decide) ?_
      refine lv_goto (tgt := 25) hx hb dX8_isPlace_21 (by decide) ?_
      obtain ⟨rfl, rfl⟩ := hs_ri hf
      exact hs_zret hx hb hr hlk (by decide) hB hS dX8_isPlace_25
end SX8_isPlace
set_option maxRecDepth 100000 in
theorem ctX8_isPlace (l : Launch) (fu : Nat) (σ : hs_T) (o : Nat) (a1 : Int32) (a2 : Int32) : hs_C0 hs_tvi l yX8_isPlace wsX8_isPlace rmX8_isPlace (fun ad => [.ref (ad o), .int a1, .int a2]) σ (fX8_isPlace fu σ o a1 a2) := by
  intro X ad sz r τ hf
  refine hs_enter (cc := cX8_isPlace) (maxL := 3) (ret := (some .boolean)) (by decide) rfl (Nat.le_of_ble_eq_true rfl) ?_
  intro p e s m below meth c ls C hl hem hB hS hsz
  exact wX8_isPlace_e fu C hem σ o a1 a2 hf hB hS hl
/-! ServiceGameModel.team()I -/
abbrev rmX8_team : Room := { frames := 0, cells := 0, slots := 0, locals := 0 }
theorem inX8_team_X8 : ∀ w ∈ wsX80, w ∈ wsX8_team := fun _ h => List.mem_cons_of_mem _ (List.mem_append_right _ h)
theorem lkX8_team_0 : Cond.fieldLink RX8 118 "ServiceGameModel" "rounds" "I" ∈ wsX8_team := by decide +kernel
theorem lkX8_team_1 : Cond.fieldLink RX8 104 "ServiceGameModel" "teams" "I" ∈ wsX8_team := by decide +kernel
def fX8_team (fu : Nat) (σ : hs_T) (o : Nat) : Option (Int32 × hs_T) :=
(hs_gI σ 10 o 1).bind fun v2 =>
if v2 ≤ 0 then
((hs_gI σ 10 o 0).bind fun v5 =>
if v5 = 5 then
(some ((-4), σ))
else
((hs_gI σ 10 o 0).bind fun v8 =>
(hs_pI σ 10 o 0 (v8 + 1)).bind fun σ10 =>
(hs_gI σ10 10 o 0).bind fun v12 =>
some ((v12 - 1), σ10)))
else
(some ((-3), σ))
section SX8_team
variable {p : Program} {l : Launch} {e : Env} {s : State} {m : MethodId} {args : Array Value} {below : List Frame} {meth : Method} {c : Code} {X : hs_X} {ad : Nat → Nat} {A : Nat → Prop} {r : Int32} {τ : hs_T}
set_option maxRecDepth 100000 in
set_option maxHeartbeats 4000000 in
theorem wX8_team_e (fu : Nat) (C : hs_Cx p s m args meth c X A yX8_team cX8_team 1 (some .int) wsX8_team) (hem : ad hs_em = X.2.2.1.2.2.2) {H : Heap} {locs : List Loc} {ls : Array Slot} (σ : hs_T) (o : Nat) (hf : fX8_team fu σ o = some (r, τ)) (hB : hs_H X.1 X.2.1 ad A σ H) (hS : va_S A s.heap H locs) (hl : lv_has ls 1 [(0, .ref (ad o))]) : W p l e rmX8_team s m args below meth c H locs 0 0 (MQ below (hs_Q0 hs_tvi X ad A r τ) args s 0 0 A) (F0 m 0 ls []) := by
  obtain ⟨hx, hb, hml, hr, hts, hown, hlk, hnm, hV, hA0, hA⟩ := id C
  have hown : s.vm.findClass RX8 = some m.cls := hown
  have hK := hV.1
  have hNw := hV.2.1
  unfold fX8_team at hf
  refine lv_aload_n hx hb dX8_team_0 rfl (lv_at hl 0 rfl) ?_
  obtain ⟨v2, h1, hf⟩ := hs_bi hf
  refine x_getI hx hb hts inX8_team_X8 hown hK hB (by decide) rfl (k := 1) (by decide) rfl h1 (hts _ lkX8_team_0) (fun _ h9 => h9) dX8_team_1 ?_
  refine lv_if_le (tgt := 10) hx hb dX8_team_4 (by decide) (fun h3 => ?_) (fun h3 => ?_)
  · have hf := hs_tt h3 hf
    refine lv_aload_n hx hb dX8_team_10 rfl (lv_at hl 0 rfl) ?_
    obtain ⟨v5, h4, hf⟩ := hs_bi hf
    refine x_getI hx hb hts inX8_team_X8 hown hK hB (by decide) rfl (k := 0) (by decide) rfl h4 (hts _ lkX8_team_1) (fun _ h9 => h9) dX8_team_11 ?_
    refine lv_iconst (v := 5) hx hb dX8_team_14 (by decide) ?_
    refine lv_icmp_ne (tgt := 21) hx hb dX8_team_15 (by decide) (fun h6 => ?_) (fun h6 => ?_)
    · have hf := hs_ff h6 hf
      refine lv_aload_n hx hb dX8_team_21 rfl (lv_at hl 0 rfl) ?_
      refine lv_dup hx hb dX8_team_22 rfl ?_
      obtain ⟨v8, h7, hf⟩ := hs_bi hf
      refine x_getI hx hb hts inX8_team_X8 hown hK hB (by decide) rfl (k := 0) (by decide) rfl h7 (hts _ lkX8_team_1) (fun _ h9 => h9) dX8_team_23 ?_
      refine lv_iconst (v := 1) hx hb dX8_team_26 (by decide) ?_
      refine lv_iadd hx hb dX8_team_27 ?_
      obtain ⟨σ10, h9, hf⟩ := hs_bi hf
      refine x_putI hx hb hts inX8_team_X8 tyX8_ok nmX8 hown hK hB hS (by decide) rfl (k := 0) (by decide) rfl h9 (hts _ lkX8_team_1) (fun _ h9 => h9) rfl (by decide +kernel) dX8_team_28 (fun H locs hB hS => ?_)
      refine lv_aload_n hx hb dX8_team_31 rfl (lv_at hl 0 rfl) ?_
      obtain ⟨v12, h11, hf⟩ := hs_bi hf
      refine x_getI hx hb hts inX8_team_X8 hown hK hB (by decide) rfl (k := 0) (by decide) rfl h11 (hts _ lkX8_team_1) (fun _ h9 => h9) dX8_team_32 ?_
      refine lv_iconst (v := 1) hx hb dX8_team_35 (by decide) ?_
      refine lv_isub hx hb dX8_team_36 ?_
      obtain ⟨rfl, rfl⟩ := hs_ri hf
      exact hs_iret hx hb hr hlk hB hS dX8_team_37
    · have hf := hs_tt h6 hf
      refine lv_bipush (v := (-4)) hx hb dX8_team_18 (by decide) ?_
      obtain ⟨rfl, rfl⟩ := hs_ri hf
      exact hs_iret hx hb hr hlk hB hS dX8_team_20
  · have hf := hs_ff h3 hf
    refine lv_bipush (v := (-3)) hx hb dX8_team_7 (by decide) ?_
    obtain ⟨rfl, rfl⟩ := hs_ri hf
    exact hs_iret hx hb hr hlk hB hS dX8_team_9
end SX8_team
set_option maxRecDepth 100000 in
theorem ctX8_team (l : Launch) (fu : Nat) (σ : hs_T) (o : Nat) : hs_C0 hs_tvi l yX8_team wsX8_team rmX8_team (fun ad => [.ref (ad o)]) σ (fX8_team fu σ o) := by
  intro X ad sz r τ hf
  refine hs_enter (cc := cX8_team) (maxL := 1) (ret := (some .int)) (by decide) rfl (Nat.le_of_ble_eq_true rfl) ?_
  intro p e s m below meth c ls C hl hem hB hS hsz
  exact wX8_team_e fu C hem σ o hf hB hS hl
/-! ServiceGameModel.feed(JI)I -/
abbrev rmX8_feed : Room := { frames := 1, cells := 0, slots := 0, locals := 25 }
theorem inX8_feed_X8 : ∀ w ∈ wsX80, w ∈ wsX8_feed := fun _ h => List.mem_cons_of_mem _ (List.mem_append_right _ h)
theorem lkX8_feed_0 : Cond.constantLong RX8 121 (8) ∈ wsX8_feed := by decide +kernel
theorem lkX8_feed_1 : Cond.fieldLink RX8 123 "ServiceGameModel" "taped" "I" ∈ wsX8_feed := by decide +kernel
theorem lkX8_feed_2 : Cond.fieldLink RX8 7 "ServiceGameModel" "tape" "[I" ∈ wsX8_feed := by decide +kernel
theorem lkX8_feed_3 : Cond.constantLong RX8 126 (255) ∈ wsX8_feed := by decide +kernel
def fX8_feed_34b (fu : Nat)  (k34 : hs_T → Nat → Int64 → Int32 → Option (Int32 × hs_T)) (σ : hs_T) (x0 : Nat) (x1 : Int64) (x4 : Int32) : Option (Int32 × hs_T) :=
if x4 < 0 then
((hs_gI σ 10 x0 7).bind fun v10 =>
some (v10, σ))
else
((hs_gN σ 10 x0 2).bind fun n12 =>
(hs_gI σ 10 x0 7).bind fun v14 =>
(hs_st σ 11 n12 v14 (((x1 >>> ((8 * x4).toInt64 &&& 63)) &&& 255).toInt32)).bind fun σ15 =>
(hs_gI σ15 10 x0 7).bind fun v18 =>
(hs_pI σ15 10 x0 7 (v18 + 1)).bind fun σ20 =>
k34 σ20 x0 x1 (x4 + (-1)))
def fX8_feed_34 (fu : Nat)  (σ : hs_T) (x0 : Nat) (x1 : Int64) (x4 : Int32) : Option (Int32 × hs_T) :=
  hs_lp (fun (k : hs_T × Nat × Int64 × Int32 → Option (Int32 × hs_T)) (a : hs_T × Nat × Int64 × Int32) => fX8_feed_34b fu  (fun σ x0 x1 x4 => k (σ, x0, x1, x4)) a.1 a.2.1 a.2.2.1 a.2.2.2) fu (σ, x0, x1, x4)
def fX8_feed (fu : Nat) (σ : hs_T) (o : Nat) (a1 : Int64) (a2 : Int32) : Option (Int32 × hs_T) :=
hs_b2 (fX8_isIn fu σ a2.toInt64 1 8) fun v3 σ2 =>
if v3 = 0 then
(some ((-2), σ2))
else
((hs_gI σ2 10 o 7).bind fun v6 =>
if (v6 + a2) ≤ 120 then
(fX8_feed_34 fu σ2 o a1 (a2 - 1))
else
(some ((-4), σ2)))
section SX8_feed
variable {p : Program} {l : Launch} {e : Env} {s : State} {m : MethodId} {args : Array Value} {below : List Frame} {meth : Method} {c : Code} {X : hs_X} {ad : Nat → Nat} {A : Nat → Prop} {r : Int32} {τ : hs_T}
set_option maxRecDepth 100000 in
set_option maxHeartbeats 4000000 in
theorem wX8_feed_34b (fu : Nat) (C : hs_Cx p s m args meth c X A yX8_feed cX8_feed 5 (some .int) wsX8_feed) (hem : ad hs_em = X.2.2.1.2.2.2)  (k34 : hs_T → Nat → Int64 → Int32 → Option (Int32 × hs_T)) (hk34 : ∀ (σ : hs_T) (x0 : Nat) (x1 : Int64) (x4 : Int32) (H : Heap) (locs : List Loc) (ls : Array Slot), k34 σ x0 x1 x4 = some (r, τ) → hs_H X.1 X.2.1 ad A σ H → va_S A s.heap H locs → lv_has ls 5 [(0, .ref (ad x0)), (1, .long x1), (4, .int x4)] → W p l e rmX8_feed s m args below meth c H locs 0 0 (MQ below (hs_Q0 hs_tvi X ad A r τ) args s 0 0 A) (F0 m 34 ls [])) {H : Heap} {locs : List Loc} {ls : Array Slot} (σ : hs_T) (x0 : Nat) (x1 : Int64) (x4 : Int32) (hf : fX8_feed_34b fu  k34 σ x0 x1 x4 = some (r, τ)) (hB : hs_H X.1 X.2.1 ad A σ H) (hS : va_S A s.heap H locs) (hl : lv_has ls 5 [(0, .ref (ad x0)), (1, .long x1), (4, .int x4)]) : W p l e rmX8_feed s m args below meth c H locs 0 0 (MQ below (hs_Q0 hs_tvi X ad A r τ) args s 0 0 A) (F0 m 34 ls []) := by
  obtain ⟨hx, hb, hml, hr, hts, hown, hlk, hnm, hV, hA0, hA⟩ := id C
  have hown : s.vm.findClass RX8 = some m.cls := hown
  have hK := hV.1
  have hNw := hV.2.1
  unfold fX8_feed_34b at hf
  refine lv_iload hx hb dX8_feed_34 (lv_at hl 2 rfl) ?_
  refine lv_if_lt (tgt := 76) hx hb dX8_feed_36 (by decide) (fun h8 => ?_) (fun h8 => ?_)
  · have hf := hs_tt h8 hf
    refine lv_aload_n hx hb dX8_feed_76 rfl (lv_at hl 0 rfl) ?_
    obtain ⟨v10, h9, hf⟩ := hs_bi hf
    refine x_getI hx hb hts inX8_feed_X8 hown hK hB (by decide) rfl (k := 7) (by decide) rfl h9 (hts _ lkX8_feed_1) (fun _ h9 => h9) dX8_feed_77 ?_
    obtain ⟨rfl, rfl⟩ := hs_ri hf
    exact hs_iret hx hb hr hlk hB hS dX8_feed_80
  · have hf := hs_ff h8 hf
    refine lv_aload_n hx hb dX8_feed_39 rfl (lv_at hl 0 rfl) ?_
    obtain ⟨n12, h11, hf⟩ := hs_bi hf
    refine x_getN hx hb hts inX8_feed_X8 hown hK hB (by decide) rfl (k := 2) (by decide) rfl h11 (hts _ lkX8_feed_2) (fun _ h9 => h9) dX8_feed_40 ?_
    refine lv_aload_n hx hb dX8_feed_43 rfl (lv_at hl 0 rfl) ?_
    obtain ⟨v14, h13, hf⟩ := hs_bi hf
    refine x_getI hx hb hts inX8_feed_X8 hown hK hB (by decide) rfl (k := 7) (by decide) rfl h13 (hts _ lkX8_feed_1) (fun _ h9 => h9) dX8_feed_44 ?_
    refine lv_lload_n hx hb dX8_feed_47 rfl (lv_at hl 1 rfl) ?_
    refine lv_bipush (v := 8) hx hb dX8_feed_48 (by decide) ?_
    refine lv_iload hx hb dX8_feed_50 (lv_at hl 2 rfl) ?_
    refine lv_imul hx hb dX8_feed_52 ?_
    refine lv_lshr hx hb dX8_feed_53 rfl ?_
    refine lv_ldc2 hx hb hown (hts _ lkX8_feed_3) dX8_feed_54 ?_
    refine lv_land hx hb dX8_feed_57 ?_
    refine lv_l2i hx hb dX8_feed_58 rfl ?_
    obtain ⟨σ15, h16, hf⟩ := hs_bi hf
    refine x_iast hx hb hK hB hS h16 dX8_feed_59 (fun H locs hB hS => ?_)
    refine lv_aload_n hx hb dX8_feed_60 rfl (lv_at hl 0 rfl) ?_
    refine lv_dup hx hb dX8_feed_61 rfl ?_
    obtain ⟨v18, h17, hf⟩ := hs_bi hf
    refine x_getI hx hb hts inX8_feed_X8 hown hK hB (by decide) rfl (k := 7) (by decide) rfl h17 (hts _ lkX8_feed_1) (fun _ h9 => h9) dX8_feed_62 ?_
    refine lv_iconst (v := 1) hx hb dX8_feed_65 (by decide) ?_
    refine lv_iadd hx hb dX8_feed_66 ?_
    obtain ⟨σ20, h19, hf⟩ := hs_bi hf
    refine x_putI hx hb hts inX8_feed_X8 tyX8_ok nmX8 hown hK hB hS (by decide) rfl (k := 7) (by decide) rfl h19 (hts _ lkX8_feed_1) (fun _ h9 => h9) rfl (by decide +kernel) dX8_feed_67 (fun H locs hB hS => ?_)
    refine lv_iinc (v := (x4 + (-1))) (lv' := [(4, .int (x4 + (-1))), (0, .ref (ad x0)), (1, .long x1)]) hx hb dX8_feed_70 hl (k := 2) rfl rfl (by decide) rfl (fun ls hl => ?_)
    refine lv_goto (tgt := 34) hx hb dX8_feed_73 (by decide) ?_
    exact hk34 σ20 x0 x1 (x4 + (-1)) _ _ _ hf hB hS (lv_sub hl [1, 2, 0] rfl)
set_option maxRecDepth 100000 in
set_option maxHeartbeats 4000000 in
theorem wX8_feed_34 (fu : Nat) (C : hs_Cx p s m args meth c X A yX8_feed cX8_feed 5 (some .int) wsX8_feed) (hem : ad hs_em = X.2.2.1.2.2.2)  {H : Heap} {locs : List Loc} {ls : Array Slot} (σ : hs_T) (x0 : Nat) (x1 : Int64) (x4 : Int32) (hf : fX8_feed_34 fu  σ x0 x1 x4 = some (r, τ)) (hB : hs_H X.1 X.2.1 ad A σ H) (hS : va_S A s.heap H locs) (hl : lv_has ls 5 [(0, .ref (ad x0)), (1, .long x1), (4, .int x4)]) : W p l e rmX8_feed s m args below meth c H locs 0 0 (MQ below (hs_Q0 hs_tvi X ad A r τ) args s 0 0 A) (F0 m 34 ls []) := by
  unfold fX8_feed_34 at hf
  exact hs_lp_i (P := fun a => ∀ (H : Heap) (locs : List Loc) (ls : Array Slot), hs_H X.1 X.2.1 ad A a.1 H → va_S A s.heap H locs → lv_has ls 5 [(0, .ref (ad a.2.1)), (1, .long a.2.2.1), (4, .int a.2.2.2)] → W p l e rmX8_feed s m args below meth c H locs 0 0 (MQ below (hs_Q0 hs_tvi X ad A r τ) args s 0 0 A) (F0 m 34 ls [])) (fun k a hk hf H locs ls hB hS hl => wX8_feed_34b fu C hem  _ (fun σ x0 x1 x4 H locs ls hf hB hS hl => hk (σ, x0, x1, x4) hf H locs ls hB hS hl) a.1 a.2.1 a.2.2.1 a.2.2.2 hf hB hS hl) fu (σ, x0, x1, x4) hf H locs ls hB hS hl
set_option maxRecDepth 100000 in
set_option maxHeartbeats 4000000 in
theorem wX8_feed_e (fu : Nat) (C : hs_Cx p s m args meth c X A yX8_feed cX8_feed 5 (some .int) wsX8_feed) (hem : ad hs_em = X.2.2.1.2.2.2) {H : Heap} {locs : List Loc} {ls : Array Slot} (σ : hs_T) (o : Nat) (a1 : Int64) (a2 : Int32) (hf : fX8_feed fu σ o a1 a2 = some (r, τ)) (hB : hs_H X.1 X.2.1 ad A σ H) (hS : va_S A s.heap H locs) (hl : lv_has ls 5 [(0, .ref (ad o)), (1, .long a1), (3, .int a2)]) : W p l e rmX8_feed s m args below meth c H locs 0 0 (MQ below (hs_Q0 hs_tvi X ad A r τ) args s 0 0 A) (F0 m 0 ls []) := by
  obtain ⟨hx, hb, hml, hr, hts, hown, hlk, hnm, hV, hA0, hA⟩ := id C
  have hown : s.vm.findClass RX8 = some m.cls := hown
  have hK := hV.1
  have hNw := hV.2.1
  unfold fX8_feed at hf
  refine lv_iload_n hx hb dX8_feed_0 rfl (lv_at hl 2 rfl) ?_
  refine lv_i2l hx hb dX8_feed_1 rfl ?_
  refine lv_lconst (v := 1) hx hb dX8_feed_2 (by decide) ?_
  refine lv_ldc2 hx hb hown (hts _ lkX8_feed_0) dX8_feed_3 ?_
  obtain ⟨v3, σ2, h1, hf⟩ := hs_b2i hf
  refine hs_call0 (va_runS (As := [.long a2.toInt64, .long 1, .long 8]) (rest := []) ⟨hx, hb, hml, hown, hts⟩ (ctX8_isIn l fu σ a2.toInt64 1 8 X ad H.size _ _ h1) (va_cwS 3 hts gX8_feed_X8_isIn rfl rfl rfl (by decide +kernel) ⟨Nat.le_of_ble_eq_true rfl, Nat.le_of_ble_eq_true rfl⟩) (hs_pre hV hB hS hA0 hA hem) rfl rfl hl.1 rfl (lv_room (Nat.le_of_ble_eq_true rfl)) dX8_feed_6 ⟨Nat.le_of_ble_eq_true rfl, Nat.le_of_ble_eq_true rfl⟩) hB hS hA rfl (fun H locs hB hS => ?_)
  refine lv_if_ne (tgt := 15) hx hb dX8_feed_9 (by decide) (fun h4 => ?_) (fun h4 => ?_)
  · have hf := hs_ff h4 hf
    refine lv_aload_n hx hb dX8_feed_15 rfl (lv_at hl 0 rfl) ?_
    obtain ⟨v6, h5, hf⟩ := hs_bi hf
    refine x_getI hx hb hts inX8_feed_X8 hown hK hB (by decide) rfl (k := 7) (by decide) rfl h5 (hts _ lkX8_feed_1) (fun _ h9 => h9) dX8_feed_16 ?_
    refine lv_iload_n hx hb dX8_feed_19 rfl (lv_at hl 2 rfl) ?_
    refine lv_iadd hx hb dX8_feed_20 ?_
    refine lv_bipush (v := 120) hx hb dX8_feed_21 (by decide) ?_
    refine lv_icmp_le (tgt := 29) hx hb dX8_feed_23 (by decide) (fun h7 => ?_) (fun h7 => ?_)
    · have hf := hs_tt h7 hf
      refine lv_iload_n hx hb dX8_feed_29 rfl (lv_at hl 2 rfl) ?_
      refine lv_iconst (v := 1) hx hb dX8_feed_30 (by decide) ?_
      refine lv_isub hx hb dX8_feed_31 ?_
      refine lv_istore (lv' := [(4, .int (a2 - 1)), (0, .ref (ad o)), (1, .long a1), (3, .int a2)]) hx hb dX8_feed_32 hl (by decide) rfl (fun ls hl => ?_)
      exact wX8_feed_34 fu C hem σ2 o a1 (a2 - 1) hf hB hS (lv_sub hl [1, 2, 0] rfl)
    · have hf := hs_ff h7 hf
      refine lv_bipush (v := (-4)) hx hb dX8_feed_26 (by decide) ?_
      obtain ⟨rfl, rfl⟩ := hs_ri hf
      exact hs_iret hx hb hr hlk hB hS dX8_feed_28
  · have hf := hs_tt h4 hf
    refine lv_bipush (v := (-2)) hx hb dX8_feed_12 (by decide) ?_
    obtain ⟨rfl, rfl⟩ := hs_ri hf
    exact hs_iret hx hb hr hlk hB hS dX8_feed_14
end SX8_feed
set_option maxRecDepth 100000 in
theorem ctX8_feed (l : Launch) (fu : Nat) (σ : hs_T) (o : Nat) (a1 : Int64) (a2 : Int32) : hs_C0 hs_tvi l yX8_feed wsX8_feed rmX8_feed (fun ad => [.ref (ad o), .long a1, .int a2]) σ (fX8_feed fu σ o a1 a2) := by
  intro X ad sz r τ hf
  refine hs_enter (cc := cX8_feed) (maxL := 5) (ret := (some .int)) (by decide) rfl (Nat.le_of_ble_eq_true rfl) ?_
  intro p e s m below meth c ls C hl hem hB hS hsz
  exact wX8_feed_e fu C hem σ o a1 a2 hf hB hS hl
/-! ServiceGameModel.sign()I -/
abbrev rmX8_sign : Room := { frames := 0, cells := 0, slots := 0, locals := 0 }
theorem inX8_sign_X8 : ∀ w ∈ wsX80, w ∈ wsX8_sign := fun _ h => List.mem_cons_of_mem _ (List.mem_append_right _ h)
theorem lkX8_sign_0 : Cond.fieldLink RX8 128 "ServiceGameModel" "at" "I" ∈ wsX8_sign := by decide +kernel
theorem lkX8_sign_1 : Cond.fieldLink RX8 123 "ServiceGameModel" "taped" "I" ∈ wsX8_sign := by decide +kernel
theorem lkX8_sign_2 : Cond.fieldLink RX8 7 "ServiceGameModel" "tape" "[I" ∈ wsX8_sign := by decide +kernel
def fX8_sign (fu : Nat) (σ : hs_T) (o : Nat) : Option (Int32 × hs_T) :=
(hs_gI σ 10 o 8).bind fun v2 =>
(hs_gI σ 10 o 7).bind fun v4 =>
if v4 ≤ v2 then
(some ((-1), σ))
else
((hs_gN σ 10 o 2).bind fun n7 =>
(hs_gI σ 10 o 8).bind fun v9 =>
(hs_ld σ 11 n7 v9).bind fun v10 =>
some (v10, σ))
section SX8_sign
variable {p : Program} {l : Launch} {e : Env} {s : State} {m : MethodId} {args : Array Value} {below : List Frame} {meth : Method} {c : Code} {X : hs_X} {ad : Nat → Nat} {A : Nat → Prop} {r : Int32} {τ : hs_T}
set_option maxRecDepth 100000 in
set_option maxHeartbeats 4000000 in
theorem wX8_sign_e (fu : Nat) (C : hs_Cx p s m args meth c X A yX8_sign cX8_sign 1 (some .int) wsX8_sign) (hem : ad hs_em = X.2.2.1.2.2.2) {H : Heap} {locs : List Loc} {ls : Array Slot} (σ : hs_T) (o : Nat) (hf : fX8_sign fu σ o = some (r, τ)) (hB : hs_H X.1 X.2.1 ad A σ H) (hS : va_S A s.heap H locs) (hl : lv_has ls 1 [(0, .ref (ad o))]) : W p l e rmX8_sign s m args below meth c H locs 0 0 (MQ below (hs_Q0 hs_tvi X ad A r τ) args s 0 0 A) (F0 m 0 ls []) := by
  obtain ⟨hx, hb, hml, hr, hts, hown, hlk, hnm, hV, hA0, hA⟩ := id C
  have hown : s.vm.findClass RX8 = some m.cls := hown
  have hK := hV.1
  have hNw := hV.2.1
  unfold fX8_sign at hf
  refine lv_aload_n hx hb dX8_sign_0 rfl (lv_at hl 0 rfl) ?_
  obtain ⟨v2, h1, hf⟩ := hs_bi hf
  refine x_getI hx hb hts inX8_sign_X8 hown hK hB (by decide) rfl (k := 8) (by decide) rfl h1 (hts _ lkX8_sign_0) (fun _ h9 => h9) dX8_sign_1 ?_
  refine lv_aload_n hx hb dX8_sign_4 rfl (lv_at hl 0 rfl) ?_
  obtain ⟨v4, h3, hf⟩ := hs_bi hf
  refine x_getI hx hb hts inX8_sign_X8 hown hK hB (by decide) rfl (k := 7) (by decide) rfl h3 (hts _ lkX8_sign_1) (fun _ h9 => h9) dX8_sign_5 ?_
  refine lv_icmp_ge (tgt := 23) hx hb dX8_sign_8 (by decide) (fun h5 => ?_) (fun h5 => ?_)
  · have hf := hs_tt h5 hf
    refine lv_iconst (v := (-1)) hx hb dX8_sign_23 (by decide) ?_
    obtain ⟨rfl, rfl⟩ := hs_ri hf
    exact hs_iret hx hb hr hlk hB hS dX8_sign_24
  · have hf := hs_ff h5 hf
    refine lv_aload_n hx hb dX8_sign_11 rfl (lv_at hl 0 rfl) ?_
    obtain ⟨n7, h6, hf⟩ := hs_bi hf
    refine x_getN hx hb hts inX8_sign_X8 hown hK hB (by decide) rfl (k := 2) (by decide) rfl h6 (hts _ lkX8_sign_2) (fun _ h9 => h9) dX8_sign_12 ?_
    refine lv_aload_n hx hb dX8_sign_15 rfl (lv_at hl 0 rfl) ?_
    obtain ⟨v9, h8, hf⟩ := hs_bi hf
    refine x_getI hx hb hts inX8_sign_X8 hown hK hB (by decide) rfl (k := 8) (by decide) rfl h8 (hts _ lkX8_sign_0) (fun _ h9 => h9) dX8_sign_16 ?_
    obtain ⟨v10, h11, hf⟩ := hs_bi hf
    refine x_iald hx hb hK hB h11 dX8_sign_19 ?_
    refine lv_goto (tgt := 24) hx hb dX8_sign_20 (by decide) ?_
    obtain ⟨rfl, rfl⟩ := hs_ri hf
    exact hs_iret hx hb hr hlk hB hS dX8_sign_24
end SX8_sign
set_option maxRecDepth 100000 in
theorem ctX8_sign (l : Launch) (fu : Nat) (σ : hs_T) (o : Nat) : hs_C0 hs_tvi l yX8_sign wsX8_sign rmX8_sign (fun ad => [.ref (ad o)]) σ (fX8_sign fu σ o) := by
  intro X ad sz r τ hf
  refine hs_enter (cc := cX8_sign) (maxL := 1) (ret := (some .int)) (by decide) rfl (Nat.le_of_ble_eq_true rfl) ?_
  intro p e s m below meth c ls C hl hem hB hS hsz
  exact wX8_sign_e fu C hem σ o hf hB hS hl
/-! ServiceGameModel.isDigit()Z -/
abbrev rmX8_isDigit : Room := { frames := 1, cells := 0, slots := 0, locals := 20 }
def fX8_isDigit (fu : Nat) (σ : hs_T) (o : Nat) : Option (Int32 × hs_T) :=
(hs_ck σ 10 o).bind fun _ =>
hs_b2 (fX8_sign fu σ o) fun v4 σ2 =>
if v4 < 48 then
(some (0, σ2))
else
((hs_ck σ2 10 o).bind fun _ =>
hs_b2 (fX8_sign fu σ2 o) fun v9 σ7 =>
if 57 < v9 then
(some (0, σ7))
else
(some (1, σ7)))
section SX8_isDigit
variable {p : Program} {l : Launch} {e : Env} {s : State} {m : MethodId} {args : Array Value} {below : List Frame} {meth : Method} {c : Code} {X : hs_X} {ad : Nat → Nat} {A : Nat → Prop} {r : Int32} {τ : hs_T}
set_option maxRecDepth 100000 in
set_option maxHeartbeats 4000000 in
theorem wX8_isDigit_e (fu : Nat) (C : hs_Cx p s m args meth c X A yX8_isDigit cX8_isDigit 1 (some .boolean) wsX8_isDigit) (hem : ad hs_em = X.2.2.1.2.2.2) {H : Heap} {locs : List Loc} {ls : Array Slot} (σ : hs_T) (o : Nat) (hf : fX8_isDigit fu σ o = some (r, τ)) (hB : hs_H X.1 X.2.1 ad A σ H) (hS : va_S A s.heap H locs) (hl : lv_has ls 1 [(0, .ref (ad o))]) : W p l e rmX8_isDigit s m args below meth c H locs 0 0 (MQ below (hs_Q0 hs_tvi X ad A r τ) args s 0 0 A) (F0 m 0 ls []) := by
  obtain ⟨hx, hb, hml, hr, hts, hown, hlk, hnm, hV, hA0, hA⟩ := id C
  have hown : s.vm.findClass RX8 = some m.cls := hown
  have hK := hV.1
  have hNw := hV.2.1
  unfold fX8_isDigit at hf
  refine lv_aload_n hx hb dX8_isDigit_0 rfl (lv_at hl 0 rfl) ?_
  obtain ⟨_, h3, hf⟩ := hs_bi hf
  obtain ⟨v4, σ2, h1, hf⟩ := hs_b2i hf
  refine hs_call0 (va_runV (As := []) (rest := []) ⟨hx, hb, hml, hown, hts⟩ (ctX8_sign l fu σ o X ad H.size _ _ h1) (cwV 0 hts gX8_isDigit_X8_sign rfl rfl rfl (by decide +kernel) ⟨Nat.le_of_ble_eq_true rfl, Nat.le_of_ble_eq_true rfl⟩) (hs_preV (hs_recv hK hB (hs_ck_i h3) (by decide) rfl) hV hB hS hA0 hA hem) rfl rfl hl.1 rfl (lv_room (Nat.le_of_ble_eq_true rfl)) dX8_isDigit_1 ⟨Nat.le_of_ble_eq_true rfl, Nat.le_of_ble_eq_true rfl⟩) hB hS hA rfl (fun H locs hB hS => ?_)
  refine lv_bipush (v := 48) hx hb dX8_isDigit_4 (by decide) ?_
  refine lv_icmp_lt (tgt := 22) hx hb dX8_isDigit_6 (by decide) (fun h5 => ?_) (fun h5 => ?_)
  · have hf := hs_tt h5 hf
    refine lv_iconst (v := 0) hx hb dX8_isDigit_22 (by decide) ?_
    obtain ⟨rfl, rfl⟩ := hs_ri hf
    exact hs_zret hx hb hr hlk (by decide) hB hS dX8_isDigit_23
  · have hf := hs_ff h5 hf
    refine lv_aload_n hx hb dX8_isDigit_9 rfl (lv_at hl 0 rfl) ?_
    obtain ⟨_, h8, hf⟩ := hs_bi hf
    obtain ⟨v9, σ7, h6, hf⟩ := hs_b2i hf
    refine hs_call0 (va_runV (As := []) (rest := []) ⟨hx, hb, hml, hown, hts⟩ (ctX8_sign l fu σ2 o X ad H.size _ _ h6) (cwV 0 hts gX8_isDigit_X8_sign rfl rfl rfl (by decide +kernel) ⟨Nat.le_of_ble_eq_true rfl, Nat.le_of_ble_eq_true rfl⟩) (hs_preV (hs_recv hK hB (hs_ck_i h8) (by decide) rfl) hV hB hS hA0 hA hem) rfl rfl hl.1 rfl (lv_room (Nat.le_of_ble_eq_true rfl)) dX8_isDigit_10 ⟨Nat.le_of_ble_eq_true rfl, Nat.le_of_ble_eq_true rfl⟩) hB hS hA rfl (fun H locs hB hS => ?_)
    refine lv_bipush (v := 57) hx hb dX8_isDigit_13 (by decide) ?_
    refine lv_icmp_gt (tgt := 22) hx hb dX8_isDigit_15 (by decide) (fun h10 => ?_) (fun h10 => ?_)
    · have hf := hs_tt h10 hf
      refine lv_iconst (v := 0) hx hb dX8_isDigit_22 (by decide) ?_
      obtain ⟨rfl, rfl⟩ := hs_ri hf
      exact hs_zret hx hb hr hlk (by decide) hB hS dX8_isDigit_23
    · have hf := hs_ff h10 hf
      refine lv_iconst (v := 1) hx hb dX8_isDigit_18 (by decide) ?_
      refine lv_goto (tgt := 23) hx hb dX8_isDigit_19 (by decide) ?_
      obtain ⟨rfl, rfl⟩ := hs_ri hf
      exact hs_zret hx hb hr hlk (by decide) hB hS dX8_isDigit_23
end SX8_isDigit
set_option maxRecDepth 100000 in
theorem ctX8_isDigit (l : Launch) (fu : Nat) (σ : hs_T) (o : Nat) : hs_C0 hs_tvi l yX8_isDigit wsX8_isDigit rmX8_isDigit (fun ad => [.ref (ad o)]) σ (fX8_isDigit fu σ o) := by
  intro X ad sz r τ hf
  refine hs_enter (cc := cX8_isDigit) (maxL := 1) (ret := (some .boolean)) (by decide) rfl (Nat.le_of_ble_eq_true rfl) ?_
  intro p e s m below meth c ls C hl hem hB hS hsz
  exact wX8_isDigit_e fu C hem σ o hf hB hS hl
/-! ServiceGameModel.digits(I)I -/
abbrev rmX8_digits : Room := { frames := 2, cells := 0, slots := 0, locals := 40 }
theorem inX8_digits_X8 : ∀ w ∈ wsX80, w ∈ wsX8_digits := fun _ h => List.mem_cons_of_mem _ (List.mem_append_right _ h)
theorem lkX8_digits_0 : Cond.fieldLink RX8 128 "ServiceGameModel" "at" "I" ∈ wsX8_digits := by decide +kernel
def fX8_digits_29b (fu : Nat)  (k29 : hs_T → Nat → Int32 → Int32 → Int32 → Option (Int32 × hs_T)) (σ : hs_T) (x0 : Nat) (x1 : Int32) (x2 : Int32) (x3 : Int32) : Option (Int32 × hs_T) :=
if x1 ≤ x3 then
(some (x2, σ))
else
(if x2 ≤ 0 then
(some (x2, σ))
else
((hs_ck σ 10 x0).bind fun _ =>
hs_b2 (fX8_isDigit fu σ x0) fun v19 σ17 =>
if v19 = 0 then
(some (x2, σ17))
else
((hs_ck σ17 10 x0).bind fun _ =>
hs_b2 (fX8_sign fu σ17 x0) fun v24 σ22 =>
(hs_gI σ22 10 x0 8).bind fun v26 =>
(hs_pI σ22 10 x0 8 (v26 + 1)).bind fun σ28 =>
k29 σ28 x0 x1 (((10 * x2) + v24) - 48) (x3 + 1))))
def fX8_digits_29 (fu : Nat)  (σ : hs_T) (x0 : Nat) (x1 : Int32) (x2 : Int32) (x3 : Int32) : Option (Int32 × hs_T) :=
  hs_lp (fun (k : hs_T × Nat × Int32 × Int32 × Int32 → Option (Int32 × hs_T)) (a : hs_T × Nat × Int32 × Int32 × Int32) => fX8_digits_29b fu  (fun σ x0 x1 x2 x3 => k (σ, x0, x1, x2, x3)) a.1 a.2.1 a.2.2.1 a.2.2.2.1 a.2.2.2.2) fu (σ, x0, x1, x2, x3)
def fX8_digits (fu : Nat) (σ : hs_T) (o : Nat) (a1 : Int32) : Option (Int32 × hs_T) :=
(hs_ck σ 10 o).bind fun _ =>
hs_b2 (fX8_isDigit fu σ o) fun v4 σ2 =>
if v4 = 0 then
(some ((-1), σ2))
else
((hs_ck σ2 10 o).bind fun _ =>
hs_b2 (fX8_sign fu σ2 o) fun v9 σ7 =>
(hs_gI σ7 10 o 8).bind fun v11 =>
(hs_pI σ7 10 o 8 (v11 + 1)).bind fun σ13 =>
fX8_digits_29 fu σ13 o a1 (v9 - 48) 1)
section SX8_digits
variable {p : Program} {l : Launch} {e : Env} {s : State} {m : MethodId} {args : Array Value} {below : List Frame} {meth : Method} {c : Code} {X : hs_X} {ad : Nat → Nat} {A : Nat → Prop} {r : Int32} {τ : hs_T}
set_option maxRecDepth 100000 in
set_option maxHeartbeats 4000000 in
theorem wX8_digits_29b (fu : Nat) (C : hs_Cx p s m args meth c X A yX8_digits cX8_digits 4 (some .int) wsX8_digits) (hem : ad hs_em = X.2.2.1.2.2.2)  (k29 : hs_T → Nat → Int32 → Int32 → Int32 → Option (Int32 × hs_T)) (hk29 : ∀ (σ : hs_T) (x0 : Nat) (x1 : Int32) (x2 : Int32) (x3 : Int32) (H : Heap) (locs : List Loc) (ls : Array Slot), k29 σ x0 x1 x2 x3 = some (r, τ) → hs_H X.1 X.2.1 ad A σ H → va_S A s.heap H locs → lv_has ls 4 [(0, .ref (ad x0)), (1, .int x1), (2, .int x2), (3, .int x3)] → W p l e rmX8_digits s m args below meth c H locs 0 0 (MQ below (hs_Q0 hs_tvi X ad A r τ) args s 0 0 A) (F0 m 29 ls [])) {H : Heap} {locs : List Loc} {ls : Array Slot} (σ : hs_T) (x0 : Nat) (x1 : Int32) (x2 : Int32) (x3 : Int32) (hf : fX8_digits_29b fu  k29 σ x0 x1 x2 x3 = some (r, τ)) (hB : hs_H X.1 X.2.1 ad A σ H) (hS : va_S A s.heap H locs) (hl : lv_has ls 4 [(0, .ref (ad x0)), (1, .int x1), (2, .int x2), (3, .int x3)]) : W p l e rmX8_digits s m args below meth c H locs 0 0 (MQ below (hs_Q0 hs_tvi X ad A r τ) args s 0 0 A) (F0 m 29 ls []) := by
  obtain ⟨hx, hb, hml, hr, hts, hown, hlk, hnm, hV, hA0, hA⟩ := id C
  have hown : s.vm.findClass RX8 = some m.cls := hown
  have hK := hV.1
  have hNw := hV.2.1
  unfold fX8_digits_29b at hf
  refine lv_iload_n hx hb dX8_digits_29 rfl (lv_at hl 3 rfl) ?_
  refine lv_iload_n hx hb dX8_digits_30 rfl (lv_at hl 1 rfl) ?_
  refine lv_icmp_ge (tgt := 74) hx hb dX8_digits_31 (by decide) (fun h14 => ?_) (fun h14 => ?_)
  · have hf := hs_tt h14 hf
    refine lv_iload_n hx hb dX8_digits_74 rfl (lv_at hl 2 rfl) ?_
    obtain ⟨rfl, rfl⟩ := hs_ri hf
    exact hs_iret hx hb hr hlk hB hS dX8_digits_75
  · have hf := hs_ff h14 hf
    refine lv_iload_n hx hb dX8_digits_34 rfl (lv_at hl 2 rfl) ?_
    refine lv_if_le (tgt := 74) hx hb dX8_digits_35 (by decide) (fun h15 => ?_) (fun h15 => ?_)
    · have hf := hs_tt h15 hf
      refine lv_iload_n hx hb dX8_digits_74 rfl (lv_at hl 2 rfl) ?_
      obtain ⟨rfl, rfl⟩ := hs_ri hf
      exact hs_iret hx hb hr hlk hB hS dX8_digits_75
    · have hf := hs_ff h15 hf
      refine lv_aload_n hx hb dX8_digits_38 rfl (lv_at hl 0 rfl) ?_
      obtain ⟨_, h18, hf⟩ := hs_bi hf
      obtain ⟨v19, σ17, h16, hf⟩ := hs_b2i hf
      refine hs_call0 (va_runV (As := []) (rest := []) ⟨hx, hb, hml, hown, hts⟩ (ctX8_isDigit l fu σ x0 X ad H.size _ _ h16) (cwV 0 hts gX8_digits_X8_isDigit rfl rfl rfl (by decide +kernel) ⟨Nat.le_of_ble_eq_true rfl, Nat.le_of_ble_eq_true rfl⟩) (hs_preV (hs_recv hK hB (hs_ck_i h18) (by decide) rfl) hV hB hS hA0 hA hem) rfl rfl hl.1 rfl (lv_room (Nat.le_of_ble_eq_true rfl)) dX8_digits_39 ⟨Nat.le_of_ble_eq_true rfl, Nat.le_of_ble_eq_true rfl⟩) hB hS hA rfl (fun H locs hB hS => ?_)
      refine lv_if_eq (tgt := 74) hx hb dX8_digits_42 (by decide) (fun h20 => ?_) (fun h20 => ?_)
      · have hf := hs_tt h20 hf
        refine lv_iload_n hx hb dX8_digits_74 rfl (lv_at hl 2 rfl) ?_
        obtain ⟨rfl, rfl⟩ := hs_ri hf
        exact hs_iret hx hb hr hlk hB hS dX8_digits_75
      · have hf := hs_ff h20 hf
        refine lv_bipush (v := 10) hx hb dX8_digits_45 (by decide) ?_
        refine lv_iload_n hx hb dX8_digits_47 rfl (lv_at hl 2 rfl) ?_
        refine lv_imul hx hb dX8_digits_48 ?_
        refine lv_aload_n hx hb dX8_digits_49 rfl (lv_at hl 0 rfl) ?_
        obtain ⟨_, h23, hf⟩ := hs_bi hf
        obtain ⟨v24, σ22, h21, hf⟩ := hs_b2i hf
        refine hs_call0 (va_runV (As := []) (rest := [.int (10 * x2)]) ⟨hx, hb, hml, hown, hts⟩ (ctX8_sign l fu σ17 x0 X ad H.size _ _ h21) (cwV 0 hts gX8_digits_X8_sign rfl rfl rfl (by decide +kernel) ⟨Nat.le_of_ble_eq_true rfl, Nat.le_of_ble_eq_true rfl⟩) (hs_preV (hs_recv hK hB (hs_ck_i h23) (by decide) rfl) hV hB hS hA0 hA hem) rfl rfl hl.1 rfl (lv_room (Nat.le_of_ble_eq_true rfl)) dX8_digits_50 ⟨Nat.le_of_ble_eq_true rfl, Nat.le_of_ble_eq_true rfl⟩) hB hS hA rfl (fun H locs hB hS => ?_)
        refine lv_iadd hx hb dX8_digits_53 ?_
        refine lv_bipush (v := 48) hx hb dX8_digits_54 (by decide) ?_
        refine lv_isub hx hb dX8_digits_56 ?_
        refine lv_istore_n (lv' := [(2, .int (((10 * x2) + v24) - 48)), (0, .ref (ad x0)), (1, .int x1), (3, .int x3)]) hx hb dX8_digits_57 rfl hl (by decide) rfl (fun ls hl => ?_)
        refine lv_aload_n hx hb dX8_digits_58 rfl (lv_at hl 1 rfl) ?_
        refine lv_dup hx hb dX8_digits_59 rfl ?_
        obtain ⟨v26, h25, hf⟩ := hs_bi hf
        refine x_getI hx hb hts inX8_digits_X8 hown hK hB (by decide) rfl (k := 8) (by decide) rfl h25 (hts _ lkX8_digits_0) (fun _ h9 => h9) dX8_digits_60 ?_
        refine lv_iconst (v := 1) hx hb dX8_digits_63 (by decide) ?_
        refine lv_iadd hx hb dX8_digits_64 ?_
        obtain ⟨σ28, h27, hf⟩ := hs_bi hf
        refine x_putI hx hb hts inX8_digits_X8 tyX8_ok nmX8 hown hK hB hS (by decide) rfl (k := 8) (by decide) rfl h27 (hts _ lkX8_digits_0) (fun _ h9 => h9) rfl (by decide +kernel) dX8_digits_65 (fun H locs hB hS => ?_)
        refine lv_iinc (v := (x3 + 1)) (lv' := [(3, .int (x3 + 1)), (2, .int (((10 * x2) + v24) - 48)), (0, .ref (ad x0)), (1, .int x1)]) hx hb dX8_digits_68 hl (k := 3) rfl rfl (by decide) rfl (fun ls hl => ?_)
        refine lv_goto (tgt := 29) hx hb dX8_digits_71 (by decide) ?_
        exact hk29 σ28 x0 x1 (((10 * x2) + v24) - 48) (x3 + 1) _ _ _ hf hB hS (lv_sub hl [2, 3, 1, 0] rfl)
set_option maxRecDepth 100000 in
set_option maxHeartbeats 4000000 in
theorem wX8_digits_29 (fu : Nat) (C : hs_Cx p s m args meth c X A yX8_digits cX8_digits 4 (some .int) wsX8_digits) (hem : ad hs_em = X.2.2.1.2.2.2)  {H : Heap} {locs : List Loc} {ls : Array Slot} (σ : hs_T) (x0 : Nat) (x1 : Int32) (x2 : Int32) (x3 : Int32) (hf : fX8_digits_29 fu  σ x0 x1 x2 x3 = some (r, τ)) (hB : hs_H X.1 X.2.1 ad A σ H) (hS : va_S A s.heap H locs) (hl : lv_has ls 4 [(0, .ref (ad x0)), (1, .int x1), (2, .int x2), (3, .int x3)]) : W p l e rmX8_digits s m args below meth c H locs 0 0 (MQ below (hs_Q0 hs_tvi X ad A r τ) args s 0 0 A) (F0 m 29 ls []) := by
  unfold fX8_digits_29 at hf
  exact hs_lp_i (P := fun a => ∀ (H : Heap) (locs : List Loc) (ls : Array Slot), hs_H X.1 X.2.1 ad A a.1 H → va_S A s.heap H locs → lv_has ls 4 [(0, .ref (ad a.2.1)), (1, .int a.2.2.1), (2, .int a.2.2.2.1), (3, .int a.2.2.2.2)] → W p l e rmX8_digits s m args below meth c H locs 0 0 (MQ below (hs_Q0 hs_tvi X ad A r τ) args s 0 0 A) (F0 m 29 ls [])) (fun k a hk hf H locs ls hB hS hl => wX8_digits_29b fu C hem  _ (fun σ x0 x1 x2 x3 H locs ls hf hB hS hl => hk (σ, x0, x1, x2, x3) hf H locs ls hB hS hl) a.1 a.2.1 a.2.2.1 a.2.2.2.1 a.2.2.2.2 hf hB hS hl) fu (σ, x0, x1, x2, x3) hf H locs ls hB hS hl
set_option maxRecDepth 100000 in
set_option maxHeartbeats 4000000 in
theorem wX8_digits_e (fu : Nat) (C : hs_Cx p s m args meth c X A yX8_digits cX8_digits 4 (some .int) wsX8_digits) (hem : ad hs_em = X.2.2.1.2.2.2) {H : Heap} {locs : List Loc} {ls : Array Slot} (σ : hs_T) (o : Nat) (a1 : Int32) (hf : fX8_digits fu σ o a1 = some (r, τ)) (hB : hs_H X.1 X.2.1 ad A σ H) (hS : va_S A s.heap H locs) (hl : lv_has ls 4 [(0, .ref (ad o)), (1, .int a1)]) : W p l e rmX8_digits s m args below meth c H locs 0 0 (MQ below (hs_Q0 hs_tvi X ad A r τ) args s 0 0 A) (F0 m 0 ls []) := by
  obtain ⟨hx, hb, hml, hr, hts, hown, hlk, hnm, hV, hA0, hA⟩ := id C
  have hown : s.vm.findClass RX8 = some m.cls := hown
  have hK := hV.1
  have hNw := hV.2.1
  unfold fX8_digits at hf
  refine lv_aload_n hx hb dX8_digits_0 rfl (lv_at hl 0 rfl) ?_
  obtain ⟨_, h3, hf⟩ := hs_bi hf
  obtain ⟨v4, σ2, h1, hf⟩ := hs_b2i hf
  refine hs_call0 (va_runV (As := []) (rest := []) ⟨hx, hb, hml, hown, hts⟩ (ctX8_isDigit l fu σ o X ad H.size _ _ h1) (cwV 0 hts gX8_digits_X8_isDigit rfl rfl rfl (by decide +kernel) ⟨Nat.le_of_ble_eq_true rfl, Nat.le_of_ble_eq_true rfl⟩) (hs_preV (hs_recv hK hB (hs_ck_i h3) (by decide) rfl) hV hB hS hA0 hA hem) rfl rfl hl.1 rfl (lv_room (Nat.le_of_ble_eq_true rfl)) dX8_digits_1 ⟨Nat.le_of_ble_eq_true rfl, Nat.le_of_ble_eq_true rfl⟩) hB hS hA rfl (fun H locs hB hS => ?_)
  refine lv_if_ne (tgt := 9) hx hb dX8_digits_4 (by decide) (fun h5 => ?_) (fun h5 => ?_)
  · have hf := hs_ff h5 hf
    refine lv_aload_n hx hb dX8_digits_9 rfl (lv_at hl 0 rfl) ?_
    obtain ⟨_, h8, hf⟩ := hs_bi hf
    obtain ⟨v9, σ7, h6, hf⟩ := hs_b2i hf
    refine hs_call0 (va_runV (As := []) (rest := []) ⟨hx, hb, hml, hown, hts⟩ (ctX8_sign l fu σ2 o X ad H.size _ _ h6) (cwV 0 hts gX8_digits_X8_sign rfl rfl rfl (by decide +kernel) ⟨Nat.le_of_ble_eq_true rfl, Nat.le_of_ble_eq_true rfl⟩) (hs_preV (hs_recv hK hB (hs_ck_i h8) (by decide) rfl) hV hB hS hA0 hA hem) rfl rfl hl.1 rfl (lv_room (Nat.le_of_ble_eq_true rfl)) dX8_digits_10 ⟨Nat.le_of_ble_eq_true rfl, Nat.le_of_ble_eq_true rfl⟩) hB hS hA rfl (fun H locs hB hS => ?_)
    refine lv_bipush (v := 48) hx hb dX8_digits_13 (by decide) ?_
    refine lv_isub hx hb dX8_digits_15 ?_
    refine lv_istore_n (lv' := [(2, .int (v9 - 48)), (0, .ref (ad o)), (1, .int a1)]) hx hb dX8_digits_16 rfl hl (by decide) rfl (fun ls hl => ?_)
    refine lv_aload_n hx hb dX8_digits_17 rfl (lv_at hl 1 rfl) ?_
    refine lv_dup hx hb dX8_digits_18 rfl ?_
    obtain ⟨v11, h10, hf⟩ := hs_bi hf
    refine x_getI hx hb hts inX8_digits_X8 hown hK hB (by decide) rfl (k := 8) (by decide) rfl h10 (hts _ lkX8_digits_0) (fun _ h9 => h9) dX8_digits_19 ?_
    refine lv_iconst (v := 1) hx hb dX8_digits_22 (by decide) ?_
    refine lv_iadd hx hb dX8_digits_23 ?_
    obtain ⟨σ13, h12, hf⟩ := hs_bi hf
    refine x_putI hx hb hts inX8_digits_X8 tyX8_ok nmX8 hown hK hB hS (by decide) rfl (k := 8) (by decide) rfl h12 (hts _ lkX8_digits_0) (fun _ h9 => h9) rfl (by decide +kernel) dX8_digits_24 (fun H locs hB hS => ?_)
    refine lv_iconst (v := 1) hx hb dX8_digits_27 (by decide) ?_
    refine lv_istore_n (lv' := [(3, .int 1), (2, .int (v9 - 48)), (0, .ref (ad o)), (1, .int a1)]) hx hb dX8_digits_28 rfl hl (by decide) rfl (fun ls hl => ?_)
    exact wX8_digits_29 fu C hem σ13 o a1 (v9 - 48) 1 hf hB hS (lv_sub hl [2, 3, 1, 0] rfl)
  · have hf := hs_tt h5 hf
    refine lv_iconst (v := (-1)) hx hb dX8_digits_7 (by decide) ?_
    obtain ⟨rfl, rfl⟩ := hs_ri hf
    exact hs_iret hx hb hr hlk hB hS dX8_digits_8
end SX8_digits
set_option maxRecDepth 100000 in
theorem ctX8_digits (l : Launch) (fu : Nat) (σ : hs_T) (o : Nat) (a1 : Int32) : hs_C0 hs_tvi l yX8_digits wsX8_digits rmX8_digits (fun ad => [.ref (ad o), .int a1]) σ (fX8_digits fu σ o a1) := by
  intro X ad sz r τ hf
  refine hs_enter (cc := cX8_digits) (maxL := 4) (ret := (some .int)) (by decide) rfl (Nat.le_of_ble_eq_true rfl) ?_
  intro p e s m below meth c ls C hl hem hB hS hsz
  exact wX8_digits_e fu C hem σ o a1 hf hB hS hl
