/-! ServiceGame.teams()I -/
abbrev rmX7_teams : Room := { frames := 1, cells := 0, slots := 0, locals := 20 }
theorem inX7_teams_X7 : ∀ w ∈ wsX70, w ∈ wsX7_teams := fun _ h => List.mem_cons_of_mem _ (List.mem_append_left _ (List.mem_append_right _ h))
theorem lkX7_teams_0 : Cond.fieldLink RX7 16 "ServiceGame" "services" "Ljava/util/ArrayList;" ∈ wsX7_teams := by decide +kernel
def fX7_teams (fu : Nat) (σ : hs_T) (o : Nat) : Option (Int32 × hs_T) :=
 (hs_gN σ 9 o 1).bind fun n2 =>
 (hs_ck σ 1 n2).bind fun _ =>
 hs_b2 (fJx4a65c_size_8abf5 fu σ n2) fun v6 σ4 =>
 some ((v6 / 3), σ4)
section SX7_teams
variable {p : Program} {l : Launch} {e : Env} {s : State} {m : MethodId} {args : Array Value} {below : List Frame} {meth : Method} {c : Code} {X : hs_X} {ad : Nat → Nat} {A : Nat → Prop} {r : Int32} {τ : hs_T}
set_option maxRecDepth 100000 in
set_option maxHeartbeats 4000000 in
theorem wX7_teams_e (fu : Nat) (C : hs_Cx p s m args meth c X A yX7_teams cX7_teams 1 (some .int) wsX7_teams) (hem : ad hs_em = X.2.2.1.2.2.2) {H : Heap} {locs : List Loc} {ls : Array Slot} (σ : hs_T) (o : Nat) (hf : fX7_teams fu σ o = some (r, τ)) (hB : hs_H X.1 X.2.1 ad A σ H) (hS : va_S A s.heap H locs) (hl : lv_has ls 1 [(0, .ref (ad o))]) : W p l e rmX7_teams s m args below meth c H locs 0 0 (MQ below (hs_Q0 hs_tvi X ad A r τ) args s 0 0 A) (F0 m 0 ls []) := by
  obtain ⟨hx, hb, hml, hr, hts, hown, hlk, hnm, hV, hA0, hA⟩ := id C
  have hown : s.vm.findClass RX7 = some m.cls := hown
  have hK := hV.1
  have hNw := hV.2.1
  unfold fX7_teams at hf
  refine lv_aload_n hx hb dX7_teams_0 rfl (lv_at hl 0 rfl) ?_
  obtain ⟨n2, h1, hf⟩ := hs_bi hf
  refine x_getN hx hb hts inX7_teams_X7 hown hK hB (by decide) rfl (k := 1) (by decide) rfl h1 (hts _ lkX7_teams_0) (fun _ h9 => h9) dX7_teams_1 ?_
  obtain ⟨_, h5, hf⟩ := hs_bi hf
  obtain ⟨v6, σ4, h3, hf⟩ := hs_b2i hf
  refine hs_call0 (va_runV (As := []) (rest := []) ⟨hx, hb, hml, hown, hts⟩ (ctJx4a65c_size_8abf5 l fu σ n2 X ad H.size _ _ h3) (cwV 0 hts gX7_teams_Jx4a65c_size_8abf5 rfl rfl rfl (by decide +kernel) ⟨Nat.le_of_ble_eq_true rfl, Nat.le_of_ble_eq_true rfl⟩) (hs_preV (hs_recv hK hB (hs_ck_i h5) (by decide) rfl) hV hB hS hA0 hA hem) rfl rfl hl.1 rfl (lv_room (Nat.le_of_ble_eq_true rfl)) dX7_teams_4 ⟨Nat.le_of_ble_eq_true rfl, Nat.le_of_ble_eq_true rfl⟩) hB hS hA rfl (fun H locs hB hS => ?_)
  refine lv_iconst (v := 3) hx hb dX7_teams_7 (by decide) ?_
  refine lv_idiv hx hb dX7_teams_8 (by decide) ?_
  obtain ⟨rfl, rfl⟩ := hs_ri hf
  exact hs_iret hx hb hr hlk hB hS dX7_teams_9
end SX7_teams
set_option maxRecDepth 100000 in
theorem ctX7_teams (l : Launch) (fu : Nat) (σ : hs_T) (o : Nat) : hs_C0 hs_tvi l yX7_teams wsX7_teams rmX7_teams (fun ad => [.ref (ad o)]) σ (fX7_teams fu σ o) := by
  intro X ad sz r τ hf
  refine hs_enter (cc := cX7_teams) (maxL := 1) (ret := (some .int)) (by decide) rfl (Nat.le_of_ble_eq_true rfl) ?_
  intro p e s m below meth c ls C hl hem hB hS hsz
  exact wX7_teams_e fu C hem σ o hf hB hS hl
/-! ServiceGame.isTeam(I)Z -/
abbrev rmX7_isTeam : Room := { frames := 2, cells := 0, slots := 0, locals := 40 }
def fX7_isTeam (fu : Nat) (σ : hs_T) (o : Nat) (a1 : Int32) : Option (Int32 × hs_T) :=
 if a1 < 0 then
 (some (0, σ))
 else
 ((hs_ck σ 9 o).bind fun _ =>
 hs_b2 (fX7_teams fu σ o) fun v5 σ3 =>
 if v5 ≤ a1 then
 (some (0, σ3))
 else
 (some (1, σ3)))
section SX7_isTeam
variable {p : Program} {l : Launch} {e : Env} {s : State} {m : MethodId} {args : Array Value} {below : List Frame} {meth : Method} {c : Code} {X : hs_X} {ad : Nat → Nat} {A : Nat → Prop} {r : Int32} {τ : hs_T}
set_option maxRecDepth 100000 in
set_option maxHeartbeats 4000000 in
theorem wX7_isTeam_e (fu : Nat) (C : hs_Cx p s m args meth c X A yX7_isTeam cX7_isTeam 2 (some .boolean) wsX7_isTeam) (hem : ad hs_em = X.2.2.1.2.2.2) {H : Heap} {locs : List Loc} {ls : Array Slot} (σ : hs_T) (o : Nat) (a1 : Int32) (hf : fX7_isTeam fu σ o a1 = some (r, τ)) (hB : hs_H X.1 X.2.1 ad A σ H) (hS : va_S A s.heap H locs) (hl : lv_has ls 2 [(0, .ref (ad o)), (1, .int a1)]) : W p l e rmX7_isTeam s m args below meth c H locs 0 0 (MQ below (hs_Q0 hs_tvi X ad A r τ) args s 0 0 A) (F0 m 0 ls []) := by
  obtain ⟨hx, hb, hml, hr, hts, hown, hlk, hnm, hV, hA0, hA⟩ := id C
  have hown : s.vm.findClass RX7 = some m.cls := hown
  have hK := hV.1
  have hNw := hV.2.1
  unfold fX7_isTeam at hf
  refine lv_iload_n hx hb dX7_isTeam_0 rfl (lv_at hl 1 rfl) ?_
  refine lv_if_lt (tgt := 16) hx hb dX7_isTeam_1 (by decide) (fun h1 => ?_) (fun h1 => ?_)
  · have hf := hs_tt h1 hf
    refine lv_iconst (v := 0) hx hb dX7_isTeam_16 (by decide) ?_
    obtain ⟨rfl, rfl⟩ := hs_ri hf
    exact hs_zret hx hb hr hlk (by decide) hB hS dX7_isTeam_17
  · have hf := hs_ff h1 hf
    refine lv_iload_n hx hb dX7_isTeam_4 rfl (lv_at hl 1 rfl) ?_
    refine lv_aload_n hx hb dX7_isTeam_5 rfl (lv_at hl 0 rfl) ?_
    obtain ⟨_, h4, hf⟩ := hs_bi hf
    obtain ⟨v5, σ3, h2, hf⟩ := hs_b2i hf
    refine hs_call0 (va_runV (As := []) (rest := [.int a1]) ⟨hx, hb, hml, hown, hts⟩ (ctX7_teams l fu σ o X ad H.size _ _ h2) (cwV 0 hts gX7_isTeam_X7_teams rfl rfl rfl (by decide +kernel) ⟨Nat.le_of_ble_eq_true rfl, Nat.le_of_ble_eq_true rfl⟩) (hs_preV (hs_recv hK hB (hs_ck_i h4) (by decide) rfl) hV hB hS hA0 hA hem) rfl rfl hl.1 rfl (lv_room (Nat.le_of_ble_eq_true rfl)) dX7_isTeam_6 ⟨Nat.le_of_ble_eq_true rfl, Nat.le_of_ble_eq_true rfl⟩) hB hS hA rfl (fun H locs hB hS => ?_)
    refine lv_icmp_ge (tgt := 16) hx hb dX7_isTeam_9 (by decide) (fun h6 => ?_) (fun h6 => ?_)
    · have hf := hs_tt h6 hf
      refine lv_iconst (v := 0) hx hb dX7_isTeam_16 (by decide) ?_
      obtain ⟨rfl, rfl⟩ := hs_ri hf
      exact hs_zret hx hb hr hlk (by decide) hB hS dX7_isTeam_17
    · have hf := hs_ff h6 hf
      refine lv_iconst (v := 1) hx hb dX7_isTeam_12 (by decide) ?_
      refine lv_goto (tgt := 17) hx hb dX7_isTeam_13 (by decide) ?_
      obtain ⟨rfl, rfl⟩ := hs_ri hf
      exact hs_zret hx hb hr hlk (by decide) hB hS dX7_isTeam_17
end SX7_isTeam
set_option maxRecDepth 100000 in
theorem ctX7_isTeam (l : Launch) (fu : Nat) (σ : hs_T) (o : Nat) (a1 : Int32) : hs_C0 hs_tvi l yX7_isTeam wsX7_isTeam rmX7_isTeam (fun ad => [.ref (ad o), .int a1]) σ (fX7_isTeam fu σ o a1) := by
  intro X ad sz r τ hf
  refine hs_enter (cc := cX7_isTeam) (maxL := 2) (ret := (some .boolean)) (by decide) rfl (Nat.le_of_ble_eq_true rfl) ?_
  intro p e s m below meth c ls C hl hem hB hS hsz
  exact wX7_isTeam_e fu C hem σ o a1 hf hB hS hl
/-! ServiceGame.wasRound(I)Z -/
abbrev rmX7_wasRound : Room := { frames := 0, cells := 0, slots := 0, locals := 0 }
theorem inX7_wasRound_X7 : ∀ w ∈ wsX70, w ∈ wsX7_wasRound := fun _ h => List.mem_cons_of_mem _ (List.mem_append_right _ h)
theorem lkX7_wasRound_0 : Cond.fieldLink RX7 54 "ServiceGame" "rounds" "I" ∈ wsX7_wasRound := by decide +kernel
def fX7_wasRound (fu : Nat) (σ : hs_T) (o : Nat) (a1 : Int32) : Option (Int32 × hs_T) :=
 if a1 < 0 then
 (some (0, σ))
 else
 ((hs_gI σ 9 o 8).bind fun v3 =>
 if v3 ≤ a1 then
 (some (0, σ))
 else
 (some (1, σ)))
section SX7_wasRound
variable {p : Program} {l : Launch} {e : Env} {s : State} {m : MethodId} {args : Array Value} {below : List Frame} {meth : Method} {c : Code} {X : hs_X} {ad : Nat → Nat} {A : Nat → Prop} {r : Int32} {τ : hs_T}
set_option maxRecDepth 100000 in
set_option maxHeartbeats 4000000 in
theorem wX7_wasRound_e (fu : Nat) (C : hs_Cx p s m args meth c X A yX7_wasRound cX7_wasRound 2 (some .boolean) wsX7_wasRound) (hem : ad hs_em = X.2.2.1.2.2.2) {H : Heap} {locs : List Loc} {ls : Array Slot} (σ : hs_T) (o : Nat) (a1 : Int32) (hf : fX7_wasRound fu σ o a1 = some (r, τ)) (hB : hs_H X.1 X.2.1 ad A σ H) (hS : va_S A s.heap H locs) (hl : lv_has ls 2 [(0, .ref (ad o)), (1, .int a1)]) : W p l e rmX7_wasRound s m args below meth c H locs 0 0 (MQ below (hs_Q0 hs_tvi X ad A r τ) args s 0 0 A) (F0 m 0 ls []) := by
  obtain ⟨hx, hb, hml, hr, hts, hown, hlk, hnm, hV, hA0, hA⟩ := id C
  have hown : s.vm.findClass RX7 = some m.cls := hown
  have hK := hV.1
  have hNw := hV.2.1
  unfold fX7_wasRound at hf
  refine lv_iload_n hx hb dX7_wasRound_0 rfl (lv_at hl 1 rfl) ?_
  refine lv_if_lt (tgt := 16) hx hb dX7_wasRound_1 (by decide) (fun h1 => ?_) (fun h1 => ?_)
  · have hf := hs_tt h1 hf
    refine lv_iconst (v := 0) hx hb dX7_wasRound_16 (by decide) ?_
    obtain ⟨rfl, rfl⟩ := hs_ri hf
    exact hs_zret hx hb hr hlk (by decide) hB hS dX7_wasRound_17
  · have hf := hs_ff h1 hf
    refine lv_iload_n hx hb dX7_wasRound_4 rfl (lv_at hl 1 rfl) ?_
    refine lv_aload_n hx hb dX7_wasRound_5 rfl (lv_at hl 0 rfl) ?_
    obtain ⟨v3, h2, hf⟩ := hs_bi hf
    refine x_getI hx hb hts inX7_wasRound_X7 hown hK hB (by decide) rfl (k := 8) (by decide) rfl h2 (hts _ lkX7_wasRound_0) (fun _ h9 => h9) dX7_wasRound_6 ?_
    refine lv_icmp_ge (tgt := 16) hx hb dX7_wasRound_9 (by decide) (fun h4 => ?_) (fun h4 => ?_)
    · have hf := hs_tt h4 hf
      refine lv_iconst (v := 0) hx hb dX7_wasRound_16 (by decide) ?_
      obtain ⟨rfl, rfl⟩ := hs_ri hf
      exact hs_zret hx hb hr hlk (by decide) hB hS dX7_wasRound_17
    · have hf := hs_ff h4 hf
      refine lv_iconst (v := 1) hx hb dX7_wasRound_12 (by decide) ?_
      refine lv_goto (tgt := 17) hx hb dX7_wasRound_13 (by decide) ?_
      obtain ⟨rfl, rfl⟩ := hs_ri hf
      exact hs_zret hx hb hr hlk (by decide) hB hS dX7_wasRound_17
end SX7_wasRound
set_option maxRecDepth 100000 in
theorem ctX7_wasRound (l : Launch) (fu : Nat) (σ : hs_T) (o : Nat) (a1 : Int32) : hs_C0 hs_tvi l yX7_wasRound wsX7_wasRound rmX7_wasRound (fun ad => [.ref (ad o), .int a1]) σ (fX7_wasRound fu σ o a1) := by
  intro X ad sz r τ hf
  refine hs_enter (cc := cX7_wasRound) (maxL := 2) (ret := (some .boolean)) (by decide) rfl (Nat.le_of_ble_eq_true rfl) ?_
  intro p e s m below meth c ls C hl hem hB hS hsz
  exact wX7_wasRound_e fu C hem σ o a1 hf hB hS hl
/-! ServiceGame.isNumber(I)Z -/
abbrev rmX7_isNumber : Room := { frames := 0, cells := 0, slots := 0, locals := 0 }
def fX7_isNumber (fu : Nat) (σ : hs_T) (a1 : Int32) : Option (Int32 × hs_T) :=
 if a1 < 0 then
 (some (0, σ))
 else
 (if 10000 ≤ a1 then
 (some (0, σ))
 else
 (some (1, σ)))
section SX7_isNumber
variable {p : Program} {l : Launch} {e : Env} {s : State} {m : MethodId} {args : Array Value} {below : List Frame} {meth : Method} {c : Code} {X : hs_X} {ad : Nat → Nat} {A : Nat → Prop} {r : Int32} {τ : hs_T}
set_option maxRecDepth 100000 in
set_option maxHeartbeats 4000000 in
theorem wX7_isNumber_e (fu : Nat) (C : hs_Cx p s m args meth c X A yX7_isNumber cX7_isNumber 1 (some .boolean) wsX7_isNumber) (hem : ad hs_em = X.2.2.1.2.2.2) {H : Heap} {locs : List Loc} {ls : Array Slot} (σ : hs_T) (a1 : Int32) (hf : fX7_isNumber fu σ a1 = some (r, τ)) (hB : hs_H X.1 X.2.1 ad A σ H) (hS : va_S A s.heap H locs) (hl : lv_has ls 1 [(0, .int a1)]) : W p l e rmX7_isNumber s m args below meth c H locs 0 0 (MQ below (hs_Q0 hs_tvi X ad A r τ) args s 0 0 A) (F0 m 0 ls []) := by
  obtain ⟨hx, hb, hml, hr, hts, hown, hlk, hnm, hV, hA0, hA⟩ := id C
  have hown : s.vm.findClass RX7 = some m.cls := hown
  have hK := hV.1
  have hNw := hV.2.1
  unfold fX7_isNumber at hf
  refine lv_iload_n hx hb dX7_isNumber_0 rfl (lv_at hl 0 rfl) ?_
  refine lv_if_lt (tgt := 15) hx hb dX7_isNumber_1 (by decide) (fun h1 => ?_) (fun h1 => ?_)
  · have hf := hs_tt h1 hf
    refine lv_iconst (v := 0) hx hb dX7_isNumber_15 (by decide) ?_
    obtain ⟨rfl, rfl⟩ := hs_ri hf
    exact hs_zret hx hb hr hlk (by decide) hB hS dX7_isNumber_16
  · have hf := hs_ff h1 hf
    refine lv_iload_n hx hb dX7_isNumber_4 rfl (lv_at hl 0 rfl) ?_
    refine lv_sipush (v := 10000) hx hb dX7_isNumber_5 (by decide) ?_
    refine lv_icmp_ge (tgt := 15) hx hb dX7_isNumber_8 (by decide) (fun h2 => ?_) (fun h2 => ?_)
    · have hf := hs_tt h2 hf
      refine lv_iconst (v := 0) hx hb dX7_isNumber_15 (by decide) ?_
      obtain ⟨rfl, rfl⟩ := hs_ri hf
      exact hs_zret hx hb hr hlk (by decide) hB hS dX7_isNumber_16
    · have hf := hs_ff h2 hf
      refine lv_iconst (v := 1) hx hb dX7_isNumber_11 (by decide) ?_
      refine lv_goto (tgt := 16) hx hb dX7_isNumber_12 (by decide) ?_
      obtain ⟨rfl, rfl⟩ := hs_ri hf
      exact hs_zret hx hb hr hlk (by decide) hB hS dX7_isNumber_16
end SX7_isNumber
set_option maxRecDepth 100000 in
theorem ctX7_isNumber (l : Launch) (fu : Nat) (σ : hs_T) (a1 : Int32) : hs_C0 hs_tvi l yX7_isNumber wsX7_isNumber rmX7_isNumber (fun ad => [.int a1]) σ (fX7_isNumber fu σ a1) := by
  intro X ad sz r τ hf
  refine hs_enter (cc := cX7_isNumber) (maxL := 1) (ret := (some .boolean)) (by decide) rfl (Nat.le_of_ble_eq_true rfl) ?_
  intro p e s m below meth c ls C hl hem hB hS hsz
  exact wX7_isNumber_e fu C hem σ a1 hf hB hS hl
/-! ServiceGame.find(II)LServiceGame$Service; -/
abbrev rmX7_find : Room := { frames := 3, cells := 0, slots := 0, locals := 64 }
theorem inX7_find_X7 : ∀ w ∈ wsX70, w ∈ wsX7_find := fun _ h => List.mem_cons_of_mem _ (List.mem_append_left _ (List.mem_append_right _ h))
theorem lkX7_find_0 : Cond.fieldLink RX7 16 "ServiceGame" "services" "Ljava/util/ArrayList;" ∈ wsX7_find := by decide +kernel
theorem lkX7_find_1 : Cond.classLink RX7 62 "ServiceGame$Service" ∈ wsX7_find := by decide +kernel
def fX7_find (fu : Nat) (σ : hs_T) (o : Nat) (a1 : Int32) (a2 : Int32) : Option (Option Nat × hs_T) :=
 (hs_ck σ 9 o).bind fun _ =>
 hs_b2 (fX7_isTeam fu σ o a1) fun v4 σ2 =>
 if v4 = 0 then
 (some (none, σ2))
 else
 (if a2 < 0 then
 (some (none, σ2))
 else
 (if a2 < 3 then
 ((hs_gN σ2 9 o 1).bind fun n9 =>
 (hs_ck σ2 1 n9).bind fun _ =>
 hs_b2 (fJx4a65c_get_915e3 fu σ2 n9 ((a1 * 3) + a2)) fun r13 σ11 => hs_mt r13 none (fun n14 =>
 (hs_ck σ11 7 n14).bind fun _ =>
 some ((some n14), σ11)))
 else
 (some (none, σ2))))
section SX7_find
variable {p : Program} {l : Launch} {e : Env} {s : State} {m : MethodId} {args : Array Value} {below : List Frame} {meth : Method} {c : Code} {X : hs_X} {ad : Nat → Nat} {A : Nat → Prop} {r : Option Nat} {τ : hs_T}
set_option maxRecDepth 100000 in
set_option maxHeartbeats 4000000 in
theorem wX7_find_e (fu : Nat) (C : hs_Cx p s m args meth c X A yX7_find cX7_find 3 (some (.object "ServiceGame$Service")) wsX7_find) (hem : ad hs_em = X.2.2.1.2.2.2) {H : Heap} {locs : List Loc} {ls : Array Slot} (σ : hs_T) (o : Nat) (a1 : Int32) (a2 : Int32) (hf : fX7_find fu σ o a1 a2 = some (r, τ)) (hB : hs_H X.1 X.2.1 ad A σ H) (hS : va_S A s.heap H locs) (hl : lv_has ls 3 [(0, .ref (ad o)), (1, .int a1), (2, .int a2)]) : W p l e rmX7_find s m args below meth c H locs 0 0 (MQ below (hs_Q0 hs_tvr X ad A r τ) args s 0 0 A) (F0 m 0 ls []) := by
  obtain ⟨hx, hb, hml, hr, hts, hown, hlk, hnm, hV, hA0, hA⟩ := id C
  have hown : s.vm.findClass RX7 = some m.cls := hown
  have hK := hV.1
  have hNw := hV.2.1
  unfold fX7_find at hf
  refine lv_aload_n hx hb dX7_find_0 rfl (lv_at hl 0 rfl) ?_
  refine lv_iload_n hx hb dX7_find_1 rfl (lv_at hl 1 rfl) ?_
  obtain ⟨_, h3, hf⟩ := hs_bi hf
  obtain ⟨v4, σ2, h1, hf⟩ := hs_b2i hf
  refine hs_call0 (va_runV (As := [.int a1]) (rest := []) ⟨hx, hb, hml, hown, hts⟩ (ctX7_isTeam l fu σ o a1 X ad H.size _ _ h1) (cwV 1 hts gX7_find_X7_isTeam rfl rfl rfl (by decide +kernel) ⟨Nat.le_of_ble_eq_true rfl, Nat.le_of_ble_eq_true rfl⟩) (hs_preV (hs_recv hK hB (hs_ck_i h3) (by decide) rfl) hV hB hS hA0 hA hem) rfl rfl hl.1 rfl (lv_room (Nat.le_of_ble_eq_true rfl)) dX7_find_2 ⟨Nat.le_of_ble_eq_true rfl, Nat.le_of_ble_eq_true rfl⟩) hB hS hA rfl (fun H locs hB hS => ?_)
  refine lv_if_eq (tgt := 17) hx hb dX7_find_5 (by decide) (fun h5 => ?_) (fun h5 => ?_)
  · have hf := hs_tt h5 hf
    refine lv_null hx hb dX7_find_17 ?_
    obtain ⟨rfl, rfl⟩ := hs_ri hf
    exact hs_aret hx hb hr hlk none rfl hB hS dX7_find_18
  · have hf := hs_ff h5 hf
    refine lv_iload_n hx hb dX7_find_8 rfl (lv_at hl 2 rfl) ?_
    refine lv_if_lt (tgt := 17) hx hb dX7_find_9 (by decide) (fun h6 => ?_) (fun h6 => ?_)
    · have hf := hs_tt h6 hf
      refine lv_null hx hb dX7_find_17 ?_
      obtain ⟨rfl, rfl⟩ := hs_ri hf
      exact hs_aret hx hb hr hlk none rfl hB hS dX7_find_18
    · have hf := hs_ff h6 hf
      refine lv_iload_n hx hb dX7_find_12 rfl (lv_at hl 2 rfl) ?_
      refine lv_iconst (v := 3) hx hb dX7_find_13 (by decide) ?_
      refine lv_icmp_lt (tgt := 19) hx hb dX7_find_14 (by decide) (fun h7 => ?_) (fun h7 => ?_)
      · have hf := hs_tt h7 hf
        refine lv_aload_n hx hb dX7_find_19 rfl (lv_at hl 0 rfl) ?_
        obtain ⟨n9, h8, hf⟩ := hs_bi hf
        refine x_getN hx hb hts inX7_find_X7 hown hK hB (by decide) rfl (k := 1) (by decide) rfl h8 (hts _ lkX7_find_0) (fun _ h9 => h9) dX7_find_20 ?_
        refine lv_iload_n hx hb dX7_find_23 rfl (lv_at hl 1 rfl) ?_
        refine lv_iconst (v := 3) hx hb dX7_find_24 (by decide) ?_
        refine lv_imul hx hb dX7_find_25 ?_
        refine lv_iload_n hx hb dX7_find_26 rfl (lv_at hl 2 rfl) ?_
        refine lv_iadd hx hb dX7_find_27 ?_
        obtain ⟨_, h12, hf⟩ := hs_bi hf
        obtain ⟨r13, σ11, h10, hf⟩ := hs_b2i hf
        obtain ⟨n14, hf, rfl⟩ := hs_mx hf
        refine hs_call0 (va_runV (As := [.int ((a1 * 3) + a2)]) (rest := []) ⟨hx, hb, hml, hown, hts⟩ (ctJx4a65c_get_915e3 l fu σ2 n9 ((a1 * 3) + a2) X ad H.size _ _ h10) (cwV 1 hts gX7_find_Jx4a65c_get_915e3 rfl rfl rfl (by decide +kernel) ⟨Nat.le_of_ble_eq_true rfl, Nat.le_of_ble_eq_true rfl⟩) (hs_preV (hs_recv hK hB (hs_ck_i h12) (by decide) rfl) hV hB hS hA0 hA hem) rfl rfl hl.1 rfl (lv_room (Nat.le_of_ble_eq_true rfl)) dX7_find_28 ⟨Nat.le_of_ble_eq_true rfl, Nat.le_of_ble_eq_true rfl⟩) hB hS hA rfl (fun H locs hB hS => ?_)
        obtain ⟨_, h15, hf⟩ := hs_bi hf
        refine x_cast hx hb hown (hts _ lkX7_find_1) hK hB (hs_ck_i h15) (by decide) rfl dX7_find_31 ?_
        obtain ⟨rfl, rfl⟩ := hs_ri hf
        exact hs_aret hx hb hr hlk (some n14) rfl hB hS dX7_find_34
      · have hf := hs_ff h7 hf
        refine lv_null hx hb dX7_find_17 ?_
        obtain ⟨rfl, rfl⟩ := hs_ri hf
        exact hs_aret hx hb hr hlk none rfl hB hS dX7_find_18
end SX7_find
set_option maxRecDepth 100000 in
theorem ctX7_find (l : Launch) (fu : Nat) (σ : hs_T) (o : Nat) (a1 : Int32) (a2 : Int32) : hs_C0 hs_tvr l yX7_find wsX7_find rmX7_find (fun ad => [.ref (ad o), .int a1, .int a2]) σ (fX7_find fu σ o a1 a2) := by
  intro X ad sz r τ hf
  refine hs_enter (cc := cX7_find) (maxL := 3) (ret := (some (.object "ServiceGame$Service"))) (by decide) rfl (Nat.le_of_ble_eq_true rfl) ?_
  intro p e s m below meth c ls C hl hem hB hS hsz
  exact wX7_find_e fu C hem σ o a1 a2 hf hB hS hl
/-! ServiceGame.feed(JI)I -/
abbrev rmX7_feed : Room := { frames := 1, cells := 0, slots := 0, locals := 24 }
theorem inX7_feed_X6 : ∀ w ∈ wsX60, w ∈ wsX7_feed := fun _ h => List.mem_cons_of_mem _ (List.mem_append_right _ h)
theorem inX7_feed_X7 : ∀ w ∈ wsX70, w ∈ wsX7_feed := fun _ h => List.mem_cons_of_mem _ (List.mem_append_left _ (List.mem_append_right _ h))
theorem lkX7_feed_0 : Cond.fieldLink RX7 26 "ServiceGame" "tape" "LServiceGame$Tape;" ∈ wsX7_feed := by decide +kernel
theorem lkX7_feed_1 : Cond.initialized RX6 ∈ wsX7_feed := by decide +kernel
theorem lkX7_feed_2 : Cond.instanceMethod yX6_append ∈ wsX7_feed := by decide +kernel
theorem lkX7_feed_3 : Cond.selects RX6 yX6_append yX6_append ∈ wsX7_feed := by decide +kernel
def fX7_feed (fu : Nat) (σ : hs_T) (o : Nat) (a1 : Int64) (a2 : Int32) : Option (Int32 × hs_T) :=
 if a2 < 1 then
 (some ((-2), σ))
 else
 (if a2 ≤ 8 then
 ((hs_gN σ 9 o 3).bind fun n4 =>
 (hs_gI σ 8 n4 1).bind fun v6 =>
 if (v6 + a2) ≤ 120 then
 ((hs_gN σ 9 o 3).bind fun n9 =>
 (hs_ck σ 8 n9).bind fun _ =>
 hs_b2 (fX6_append fu σ n9 a1 a2) fun _ σ11 =>
 (hs_gN σ11 9 o 3).bind fun n14 =>
 (hs_gI σ11 8 n14 1).bind fun v16 =>
 some (v16, σ11))
 else
 (some ((-4), σ)))
 else
 (some ((-2), σ)))
section SX7_feed
variable {p : Program} {l : Launch} {e : Env} {s : State} {m : MethodId} {args : Array Value} {below : List Frame} {meth : Method} {c : Code} {X : hs_X} {ad : Nat → Nat} {A : Nat → Prop} {r : Int32} {τ : hs_T}
set_option maxRecDepth 100000 in
set_option maxHeartbeats 4000000 in
theorem wX7_feed_e (fu : Nat) (C : hs_Cx p s m args meth c X A yX7_feed cX7_feed 4 (some .int) wsX7_feed) (hem : ad hs_em = X.2.2.1.2.2.2) {H : Heap} {locs : List Loc} {ls : Array Slot} (σ : hs_T) (o : Nat) (a1 : Int64) (a2 : Int32) (hf : fX7_feed fu σ o a1 a2 = some (r, τ)) (hB : hs_H X.1 X.2.1 ad A σ H) (hS : va_S A s.heap H locs) (hl : lv_has ls 4 [(0, .ref (ad o)), (1, .long a1), (3, .int a2)]) : W p l e rmX7_feed s m args below meth c H locs 0 0 (MQ below (hs_Q0 hs_tvi X ad A r τ) args s 0 0 A) (F0 m 0 ls []) := by
  obtain ⟨hx, hb, hml, hr, hts, hown, hlk, hnm, hV, hA0, hA⟩ := id C
  have hown : s.vm.findClass RX7 = some m.cls := hown
  have hK := hV.1
  have hNw := hV.2.1
  unfold fX7_feed at hf
  refine lv_iload_n hx hb dX7_feed_0 rfl (lv_at hl 2 rfl) ?_
  refine lv_iconst (v := 1) hx hb dX7_feed_1 (by decide) ?_
  refine lv_icmp_lt (tgt := 11) hx hb dX7_feed_2 (by decide) (fun h1 => ?_) (fun h1 => ?_)
  · have hf := hs_tt h1 hf
    refine lv_bipush (v := (-2)) hx hb dX7_feed_11 (by decide) ?_
    obtain ⟨rfl, rfl⟩ := hs_ri hf
    exact hs_iret hx hb hr hlk hB hS dX7_feed_13
  · have hf := hs_ff h1 hf
    refine lv_iload_n hx hb dX7_feed_5 rfl (lv_at hl 2 rfl) ?_
    refine lv_bipush (v := 8) hx hb dX7_feed_6 (by decide) ?_
    refine lv_icmp_le (tgt := 14) hx hb dX7_feed_8 (by decide) (fun h2 => ?_) (fun h2 => ?_)
    · have hf := hs_tt h2 hf
      refine lv_aload_n hx hb dX7_feed_14 rfl (lv_at hl 0 rfl) ?_
      obtain ⟨n4, h3, hf⟩ := hs_bi hf
      refine x_getN hx hb hts inX7_feed_X7 hown hK hB (by decide) rfl (k := 3) (by decide) rfl h3 (hts _ lkX7_feed_0) (fun _ h9 => h9) dX7_feed_15 ?_
      obtain ⟨v6, h5, hf⟩ := hs_bi hf
      refine x_getIN hx hb hts inX7_feed_X6 hown hK hB (by decide) rfl (k := 1) (by decide) rfl h5 (hNw (.fieldLinkNest "ServiceGame" 71 "ServiceGame$Tape" "size" "I" "ServiceGame") (by decide +kernel)) (fun _ h9 => h9) dX7_feed_18 ?_
      refine lv_iload_n hx hb dX7_feed_21 rfl (lv_at hl 2 rfl) ?_
      refine lv_iadd hx hb dX7_feed_22 ?_
      refine lv_bipush (v := 120) hx hb dX7_feed_23 (by decide) ?_
      refine lv_icmp_le (tgt := 31) hx hb dX7_feed_25 (by decide) (fun h7 => ?_) (fun h7 => ?_)
      · have hf := hs_tt h7 hf
        refine lv_aload_n hx hb dX7_feed_31 rfl (lv_at hl 0 rfl) ?_
        obtain ⟨n9, h8, hf⟩ := hs_bi hf
        refine x_getN hx hb hts inX7_feed_X7 hown hK hB (by decide) rfl (k := 3) (by decide) rfl h8 (hts _ lkX7_feed_0) (fun _ h9 => h9) dX7_feed_32 ?_
        refine lv_lload_n hx hb dX7_feed_35 rfl (lv_at hl 1 rfl) ?_
        refine lv_iload_n hx hb dX7_feed_36 rfl (lv_at hl 2 rfl) ?_
        obtain ⟨_, h12, hf⟩ := hs_bi hf
        obtain ⟨_, σ11, h10, hf⟩ := hs_b2i hf
        refine hs_call0 (va_runVN (As := [.long a1, .int a2]) (rest := []) ⟨hx, hb, hml, hown, hts⟩ (ctX6_append l fu σ n9 a1 a2 X ad H.size _ _ h10) ⟨va_cnB 2 hts gX7_feed_X6_append_n74 rfl rfl rfl (hNw (.methodLinkNest "ServiceGame" 74 yX6_append "ServiceGame") (by decide +kernel)) (hts _ lkX7_feed_1) (by decide +kernel) ⟨Nat.le_of_ble_eq_true rfl, Nat.le_of_ble_eq_true rfl⟩, (hts _ lkX7_feed_2), (hts _ lkX7_feed_3)⟩ (hs_preV (hs_recv hK hB (hs_ck_i h12) (by decide) rfl) hV hB hS hA0 hA hem) rfl rfl hl.1 rfl (lv_room (Nat.le_of_ble_eq_true rfl)) dX7_feed_37 ⟨Nat.le_of_ble_eq_true rfl, Nat.le_of_ble_eq_true rfl⟩) hB hS hA rfl (fun H locs hB hS => ?_)
        refine lv_aload_n hx hb dX7_feed_40 rfl (lv_at hl 0 rfl) ?_
        obtain ⟨n14, h13, hf⟩ := hs_bi hf
        refine x_getN hx hb hts inX7_feed_X7 hown hK hB (by decide) rfl (k := 3) (by decide) rfl h13 (hts _ lkX7_feed_0) (fun _ h9 => h9) dX7_feed_41 ?_
        obtain ⟨v16, h15, hf⟩ := hs_bi hf
        refine x_getIN hx hb hts inX7_feed_X6 hown hK hB (by decide) rfl (k := 1) (by decide) rfl h15 (hNw (.fieldLinkNest "ServiceGame" 71 "ServiceGame$Tape" "size" "I" "ServiceGame") (by decide +kernel)) (fun _ h9 => h9) dX7_feed_44 ?_
        obtain ⟨rfl, rfl⟩ := hs_ri hf
        exact hs_iret hx hb hr hlk hB hS dX7_feed_47
      · have hf := hs_ff h7 hf
        refine lv_bipush (v := (-4)) hx hb dX7_feed_28 (by decide) ?_
        obtain ⟨rfl, rfl⟩ := hs_ri hf
        exact hs_iret hx hb hr hlk hB hS dX7_feed_30
    · have hf := hs_ff h2 hf
      refine lv_bipush (v := (-2)) hx hb dX7_feed_11 (by decide) ?_
      obtain ⟨rfl, rfl⟩ := hs_ri hf
      exact hs_iret hx hb hr hlk hB hS dX7_feed_13
end SX7_feed
set_option maxRecDepth 100000 in
theorem ctX7_feed (l : Launch) (fu : Nat) (σ : hs_T) (o : Nat) (a1 : Int64) (a2 : Int32) : hs_C0 hs_tvi l yX7_feed wsX7_feed rmX7_feed (fun ad => [.ref (ad o), .long a1, .int a2]) σ (fX7_feed fu σ o a1 a2) := by
  intro X ad sz r τ hf
  refine hs_enter (cc := cX7_feed) (maxL := 4) (ret := (some .int)) (by decide) rfl (Nat.le_of_ble_eq_true rfl) ?_
  intro p e s m below meth c ls C hl hem hB hS hsz
  exact wX7_feed_e fu C hem σ o a1 a2 hf hB hS hl
/-! ServiceGame.unpatch(II)I -/
abbrev rmX7_unpatch : Room := { frames := 4, cells := 0, slots := 0, locals := 86 }
theorem inX7_unpatch_X3 : ∀ w ∈ wsX30, w ∈ wsX7_unpatch := fun _ h => List.mem_cons_of_mem _ (List.mem_append_left _ (List.mem_append_left _ (List.mem_append_right _ h)))
theorem inX7_unpatch_X5 : ∀ w ∈ wsX50, w ∈ wsX7_unpatch := fun _ h => List.mem_cons_of_mem _ (List.mem_append_left _ (List.mem_append_left _ (List.mem_append_left _ (List.mem_append_right _ h))))
def fX7_unpatch (fu : Nat) (σ : hs_T) (o : Nat) (a1 : Int32) (a2 : Int32) : Option (Int32 × hs_T) :=
 (hs_ck σ 9 o).bind fun _ =>
 hs_b2 (fX7_find fu σ o a1 a2) fun r4 σ2 => hs_mt r4
 (some ((-1), σ2))
 (fun n5 =>
 (hs_gR σ2 7 n5 10).bind fun r7 => hs_mt r7
 (some ((-3), σ2))
 (fun n8 =>
 (hs_pR σ2 7 n5 10 none).bind fun σ10 =>
 (hs_gI σ10 5 n8 0).bind fun v12 =>
 some (v12, σ10)))
section SX7_unpatch
variable {p : Program} {l : Launch} {e : Env} {s : State} {m : MethodId} {args : Array Value} {below : List Frame} {meth : Method} {c : Code} {X : hs_X} {ad : Nat → Nat} {A : Nat → Prop} {r : Int32} {τ : hs_T}
set_option maxRecDepth 100000 in
set_option maxHeartbeats 4000000 in
theorem wX7_unpatch_e (fu : Nat) (C : hs_Cx p s m args meth c X A yX7_unpatch cX7_unpatch 5 (some .int) wsX7_unpatch) (hem : ad hs_em = X.2.2.1.2.2.2) {H : Heap} {locs : List Loc} {ls : Array Slot} (σ : hs_T) (o : Nat) (a1 : Int32) (a2 : Int32) (hf : fX7_unpatch fu σ o a1 a2 = some (r, τ)) (hB : hs_H X.1 X.2.1 ad A σ H) (hS : va_S A s.heap H locs) (hl : lv_has ls 5 [(0, .ref (ad o)), (1, .int a1), (2, .int a2)]) : W p l e rmX7_unpatch s m args below meth c H locs 0 0 (MQ below (hs_Q0 hs_tvi X ad A r τ) args s 0 0 A) (F0 m 0 ls []) := by
  obtain ⟨hx, hb, hml, hr, hts, hown, hlk, hnm, hV, hA0, hA⟩ := id C
  have hown : s.vm.findClass RX7 = some m.cls := hown
  have hK := hV.1
  have hNw := hV.2.1
  unfold fX7_unpatch at hf
  refine lv_aload_n hx hb dX7_unpatch_0 rfl (lv_at hl 0 rfl) ?_
  refine lv_iload_n hx hb dX7_unpatch_1 rfl (lv_at hl 1 rfl) ?_
  refine lv_iload_n hx hb dX7_unpatch_2 rfl (lv_at hl 2 rfl) ?_
  obtain ⟨_, h3, hf⟩ := hs_bi hf
  obtain ⟨r4, σ2, h1, hf⟩ := hs_b2i hf
  cases r4 with
  | none =>
    have hf := hs_mn hf
    refine hs_call0 (va_runV (As := [.int a1, .int a2]) (rest := []) ⟨hx, hb, hml, hown, hts⟩ (ctX7_find l fu σ o a1 a2 X ad H.size _ _ h1) (cwV 2 hts gX7_unpatch_X7_find rfl rfl rfl (by decide +kernel) ⟨Nat.le_of_ble_eq_true rfl, Nat.le_of_ble_eq_true rfl⟩) (hs_preV (hs_recv hK hB (hs_ck_i h3) (by decide) rfl) hV hB hS hA0 hA hem) rfl rfl hl.1 rfl (lv_room (Nat.le_of_ble_eq_true rfl)) dX7_unpatch_3 ⟨Nat.le_of_ble_eq_true rfl, Nat.le_of_ble_eq_true rfl⟩) hB hS hA rfl (fun H locs hB hS => ?_)
    refine lv_astore_nN (lv' := [(3, .null), (0, .ref (ad o)), (1, .int a1), (2, .int a2)]) hx hb dX7_unpatch_6 rfl hl (by decide) rfl (fun ls hl => ?_)
    refine lv_aload_nN hx hb dX7_unpatch_7 rfl (lv_at hl 0 rfl) ?_
    refine lv_ifnonnullN hx hb dX7_unpatch_8 ?_
    refine lv_iconst (v := (-1)) hx hb dX7_unpatch_11 (by decide) ?_
    obtain ⟨rfl, rfl⟩ := hs_ri hf
    exact hs_iret hx hb hr hlk hB hS dX7_unpatch_12
  | some n5 =>
    have hf := hs_ms hf
    refine hs_call0 (va_runV (As := [.int a1, .int a2]) (rest := []) ⟨hx, hb, hml, hown, hts⟩ (ctX7_find l fu σ o a1 a2 X ad H.size _ _ h1) (cwV 2 hts gX7_unpatch_X7_find rfl rfl rfl (by decide +kernel) ⟨Nat.le_of_ble_eq_true rfl, Nat.le_of_ble_eq_true rfl⟩) (hs_preV (hs_recv hK hB (hs_ck_i h3) (by decide) rfl) hV hB hS hA0 hA hem) rfl rfl hl.1 rfl (lv_room (Nat.le_of_ble_eq_true rfl)) dX7_unpatch_3 ⟨Nat.le_of_ble_eq_true rfl, Nat.le_of_ble_eq_true rfl⟩) hB hS hA rfl (fun H locs hB hS => ?_)
    refine lv_astore_n (lv' := [(3, .ref (ad n5)), (0, .ref (ad o)), (1, .int a1), (2, .int a2)]) hx hb dX7_unpatch_6 rfl hl (by decide) rfl (fun ls hl => ?_)
    refine lv_aload_n hx hb dX7_unpatch_7 rfl (lv_at hl 0 rfl) ?_
    refine lv_ifnonnull (tgt := 13) hx hb dX7_unpatch_8 (by decide) ?_
    refine lv_aload_n hx hb dX7_unpatch_13 rfl (lv_at hl 0 rfl) ?_
    obtain ⟨r7, h6, hf⟩ := hs_bi hf
    cases r7 with
    | none =>
      have hf := hs_mn hf
      refine x_getRnN hx hb hts inX7_unpatch_X5 hown hK hB (by decide) rfl (k := 10) (by decide) rfl h6 (hNw (.fieldLinkNest "ServiceGame" 90 "ServiceGame$Service" "patch" "LServiceGame$Program;" "ServiceGame") (by decide +kernel)) (fun _ h9 => h9) dX7_unpatch_14 ?_
      refine lv_astoreN (lv' := [(4, .null), (3, .ref (ad n5)), (0, .ref (ad o)), (1, .int a1), (2, .int a2)]) hx hb dX7_unpatch_17 hl (by decide) rfl (fun ls hl => ?_)
      refine lv_aloadN hx hb dX7_unpatch_19 (lv_at hl 0 rfl) ?_
      refine lv_ifnonnullN hx hb dX7_unpatch_21 ?_
      refine lv_bipush (v := (-3)) hx hb dX7_unpatch_24 (by decide) ?_
      obtain ⟨rfl, rfl⟩ := hs_ri hf
      exact hs_iret hx hb hr hlk hB hS dX7_unpatch_26
    | some n8 =>
      have hf := hs_ms hf
      refine x_getRsN hx hb hts inX7_unpatch_X5 hown hK hB (by decide) rfl (k := 10) (by decide) rfl h6 (hNw (.fieldLinkNest "ServiceGame" 90 "ServiceGame$Service" "patch" "LServiceGame$Program;" "ServiceGame") (by decide +kernel)) (fun _ h9 => h9) dX7_unpatch_14 ?_
      refine lv_astore (lv' := [(4, .ref (ad n8)), (3, .ref (ad n5)), (0, .ref (ad o)), (1, .int a1), (2, .int a2)]) hx hb dX7_unpatch_17 hl (by decide) rfl (fun ls hl => ?_)
      refine lv_aload hx hb dX7_unpatch_19 (lv_at hl 0 rfl) ?_
      refine lv_ifnonnull (tgt := 27) hx hb dX7_unpatch_21 (by decide) ?_
      refine lv_aload_n hx hb dX7_unpatch_27 rfl (lv_at hl 1 rfl) ?_
      refine lv_null hx hb dX7_unpatch_28 ?_
      obtain ⟨σ10, h9, hf⟩ := hs_bi hf
      refine x_putRnN hx hb hts inX7_unpatch_X5 tyX5_ok nmX5 hown hK hB hS (by decide) rfl (k := 10) (by decide) rfl h9 (hNw (.fieldLinkNest "ServiceGame" 90 "ServiceGame$Service" "patch" "LServiceGame$Program;" "ServiceGame") (by decide +kernel)) (fun _ h9 => h9) rfl (ty := .object "ServiceGame$Program") (by decide +kernel) rfl rfl dX7_unpatch_29 (fun H locs hB hS => ?_)
      refine lv_aload hx hb dX7_unpatch_32 (lv_at hl 0 rfl) ?_
      obtain ⟨v12, h11, hf⟩ := hs_bi hf
      refine x_getIN hx hb hts inX7_unpatch_X3 hown hK hB (by decide) rfl (k := 0) (by decide) rfl h11 (hNw (.fieldLinkNest "ServiceGame" 94 "ServiceGame$Program" "size" "I" "ServiceGame") (by decide +kernel)) (fun _ h9 => h9) dX7_unpatch_34 ?_
      obtain ⟨rfl, rfl⟩ := hs_ri hf
      exact hs_iret hx hb hr hlk hB hS dX7_unpatch_37
end SX7_unpatch
set_option maxRecDepth 100000 in
theorem ctX7_unpatch (l : Launch) (fu : Nat) (σ : hs_T) (o : Nat) (a1 : Int32) (a2 : Int32) : hs_C0 hs_tvi l yX7_unpatch wsX7_unpatch rmX7_unpatch (fun ad => [.ref (ad o), .int a1, .int a2]) σ (fX7_unpatch fu σ o a1 a2) := by
  intro X ad sz r τ hf
  refine hs_enter (cc := cX7_unpatch) (maxL := 5) (ret := (some .int)) (by decide) rfl (Nat.le_of_ble_eq_true rfl) ?_
  intro p e s m below meth c ls C hl hem hB hS hsz
  exact wX7_unpatch_e fu C hem σ o a1 a2 hf hB hS hl
/-! ServiceGame.cell(III)I -/
abbrev rmX7_cell : Room := { frames := 4, cells := 0, slots := 0, locals := 86 }
theorem inX7_cell_X5 : ∀ w ∈ wsX50, w ∈ wsX7_cell := fun _ h => List.mem_cons_of_mem _ (List.mem_append_left _ (List.mem_append_left _ (List.mem_append_right _ h)))
def fX7_cell (fu : Nat) (σ : hs_T) (o : Nat) (a1 : Int32) (a2 : Int32) (a3 : Int32) : Option (Int32 × hs_T) :=
 (hs_ck σ 9 o).bind fun _ =>
 hs_b2 (fX7_find fu σ o a1 a2) fun r4 σ2 => hs_mt r4
 (some ((-1), σ2))
 (fun n5 =>
 if a3 < 0 then
 (some ((-1), σ2))
 else
 (if a3 < 8 then
 ((hs_gN σ2 7 n5 2).bind fun n9 =>
 (hs_ld σ2 11 n9 a3).bind fun v10 =>
 some (v10, σ2))
 else
 (some ((-1), σ2))))
section SX7_cell
variable {p : Program} {l : Launch} {e : Env} {s : State} {m : MethodId} {args : Array Value} {below : List Frame} {meth : Method} {c : Code} {X : hs_X} {ad : Nat → Nat} {A : Nat → Prop} {r : Int32} {τ : hs_T}
set_option maxRecDepth 100000 in
set_option maxHeartbeats 4000000 in
theorem wX7_cell_e (fu : Nat) (C : hs_Cx p s m args meth c X A yX7_cell cX7_cell 5 (some .int) wsX7_cell) (hem : ad hs_em = X.2.2.1.2.2.2) {H : Heap} {locs : List Loc} {ls : Array Slot} (σ : hs_T) (o : Nat) (a1 : Int32) (a2 : Int32) (a3 : Int32) (hf : fX7_cell fu σ o a1 a2 a3 = some (r, τ)) (hB : hs_H X.1 X.2.1 ad A σ H) (hS : va_S A s.heap H locs) (hl : lv_has ls 5 [(0, .ref (ad o)), (1, .int a1), (2, .int a2), (3, .int a3)]) : W p l e rmX7_cell s m args below meth c H locs 0 0 (MQ below (hs_Q0 hs_tvi X ad A r τ) args s 0 0 A) (F0 m 0 ls []) := by
  obtain ⟨hx, hb, hml, hr, hts, hown, hlk, hnm, hV, hA0, hA⟩ := id C
  have hown : s.vm.findClass RX7 = some m.cls := hown
  have hK := hV.1
  have hNw := hV.2.1
  unfold fX7_cell at hf
  refine lv_aload_n hx hb dX7_cell_0 rfl (lv_at hl 0 rfl) ?_
  refine lv_iload_n hx hb dX7_cell_1 rfl (lv_at hl 1 rfl) ?_
  refine lv_iload_n hx hb dX7_cell_2 rfl (lv_at hl 2 rfl) ?_
  obtain ⟨_, h3, hf⟩ := hs_bi hf
  obtain ⟨r4, σ2, h1, hf⟩ := hs_b2i hf
  cases r4 with
  | none =>
    have hf := hs_mn hf
    refine hs_call0 (va_runV (As := [.int a1, .int a2]) (rest := []) ⟨hx, hb, hml, hown, hts⟩ (ctX7_find l fu σ o a1 a2 X ad H.size _ _ h1) (cwV 2 hts gX7_cell_X7_find rfl rfl rfl (by decide +kernel) ⟨Nat.le_of_ble_eq_true rfl, Nat.le_of_ble_eq_true rfl⟩) (hs_preV (hs_recv hK hB (hs_ck_i h3) (by decide) rfl) hV hB hS hA0 hA hem) rfl rfl hl.1 rfl (lv_room (Nat.le_of_ble_eq_true rfl)) dX7_cell_3 ⟨Nat.le_of_ble_eq_true rfl, Nat.le_of_ble_eq_true rfl⟩) hB hS hA rfl (fun H locs hB hS => ?_)
    refine lv_astoreN (lv' := [(4, .null), (0, .ref (ad o)), (1, .int a1), (2, .int a2), (3, .int a3)]) hx hb dX7_cell_6 hl (by decide) rfl (fun ls hl => ?_)
    refine lv_aloadN hx hb dX7_cell_8 (lv_at hl 0 rfl) ?_
    refine lv_ifnullN (tgt := 23) hx hb dX7_cell_10 (by decide) ?_
    refine lv_iconst (v := (-1)) hx hb dX7_cell_23 (by decide) ?_
    obtain ⟨rfl, rfl⟩ := hs_ri hf
    exact hs_iret hx hb hr hlk hB hS dX7_cell_24
  | some n5 =>
    have hf := hs_ms hf
    refine hs_call0 (va_runV (As := [.int a1, .int a2]) (rest := []) ⟨hx, hb, hml, hown, hts⟩ (ctX7_find l fu σ o a1 a2 X ad H.size _ _ h1) (cwV 2 hts gX7_cell_X7_find rfl rfl rfl (by decide +kernel) ⟨Nat.le_of_ble_eq_true rfl, Nat.le_of_ble_eq_true rfl⟩) (hs_preV (hs_recv hK hB (hs_ck_i h3) (by decide) rfl) hV hB hS hA0 hA hem) rfl rfl hl.1 rfl (lv_room (Nat.le_of_ble_eq_true rfl)) dX7_cell_3 ⟨Nat.le_of_ble_eq_true rfl, Nat.le_of_ble_eq_true rfl⟩) hB hS hA rfl (fun H locs hB hS => ?_)
    refine lv_astore (lv' := [(4, .ref (ad n5)), (0, .ref (ad o)), (1, .int a1), (2, .int a2), (3, .int a3)]) hx hb dX7_cell_6 hl (by decide) rfl (fun ls hl => ?_)
    refine lv_aload hx hb dX7_cell_8 (lv_at hl 0 rfl) ?_
    refine lv_ifnull hx hb dX7_cell_10 ?_
    refine lv_iload_n hx hb dX7_cell_13 rfl (lv_at hl 4 rfl) ?_
    refine lv_if_lt (tgt := 23) hx hb dX7_cell_14 (by decide) (fun h6 => ?_) (fun h6 => ?_)
    · have hf := hs_tt h6 hf
      refine lv_iconst (v := (-1)) hx hb dX7_cell_23 (by decide) ?_
      obtain ⟨rfl, rfl⟩ := hs_ri hf
      exact hs_iret hx hb hr hlk hB hS dX7_cell_24
    · have hf := hs_ff h6 hf
      refine lv_iload_n hx hb dX7_cell_17 rfl (lv_at hl 4 rfl) ?_
      refine lv_bipush (v := 8) hx hb dX7_cell_18 (by decide) ?_
      refine lv_icmp_lt (tgt := 25) hx hb dX7_cell_20 (by decide) (fun h7 => ?_) (fun h7 => ?_)
      · have hf := hs_tt h7 hf
        refine lv_aload hx hb dX7_cell_25 (lv_at hl 0 rfl) ?_
        obtain ⟨n9, h8, hf⟩ := hs_bi hf
        refine x_getNN hx hb hts inX7_cell_X5 hown hK hB (by decide) rfl (k := 2) (by decide) rfl h8 (hNw (.fieldLinkNest "ServiceGame" 97 "ServiceGame$Service" "cells" "[I" "ServiceGame") (by decide +kernel)) (fun _ h9 => h9) dX7_cell_27 ?_
        refine lv_iload_n hx hb dX7_cell_30 rfl (lv_at hl 4 rfl) ?_
        obtain ⟨v10, h11, hf⟩ := hs_bi hf
        refine x_iald hx hb hK hB h11 dX7_cell_31 ?_
        obtain ⟨rfl, rfl⟩ := hs_ri hf
        exact hs_iret hx hb hr hlk hB hS dX7_cell_32
      · have hf := hs_ff h7 hf
        refine lv_iconst (v := (-1)) hx hb dX7_cell_23 (by decide) ?_
        obtain ⟨rfl, rfl⟩ := hs_ri hf
        exact hs_iret hx hb hr hlk hB hS dX7_cell_24
end SX7_cell
set_option maxRecDepth 100000 in
theorem ctX7_cell (l : Launch) (fu : Nat) (σ : hs_T) (o : Nat) (a1 : Int32) (a2 : Int32) (a3 : Int32) : hs_C0 hs_tvi l yX7_cell wsX7_cell rmX7_cell (fun ad => [.ref (ad o), .int a1, .int a2, .int a3]) σ (fX7_cell fu σ o a1 a2 a3) := by
  intro X ad sz r τ hf
  refine hs_enter (cc := cX7_cell) (maxL := 5) (ret := (some .int)) (by decide) rfl (Nat.le_of_ble_eq_true rfl) ?_
  intro p e s m below meth c ls C hl hem hB hS hsz
  exact wX7_cell_e fu C hem σ o a1 a2 a3 hf hB hS hl
/-! ServiceGame.about(III)I -/
abbrev rmX7_about : Room := { frames := 4, cells := 0, slots := 0, locals := 86 }
theorem inX7_about_X3 : ∀ w ∈ wsX30, w ∈ wsX7_about := fun _ h => List.mem_cons_of_mem _ (List.mem_append_left _ (List.mem_append_left _ (List.mem_append_right _ h)))
theorem inX7_about_X5 : ∀ w ∈ wsX50, w ∈ wsX7_about := fun _ h => List.mem_cons_of_mem _ (List.mem_append_left _ (List.mem_append_left _ (List.mem_append_left _ (List.mem_append_right _ h))))
theorem inX7_about_X7 : ∀ w ∈ wsX70, w ∈ wsX7_about := fun _ h => List.mem_cons_of_mem _ (List.mem_append_left _ (List.mem_append_right _ h))
theorem lkX7_about_0 : Cond.fieldLink RX7 54 "ServiceGame" "rounds" "I" ∈ wsX7_about := by decide +kernel
def fX7_about (fu : Nat) (σ : hs_T) (o : Nat) (a1 : Int32) (a2 : Int32) (a3 : Int32) : Option (Int32 × hs_T) :=
 (hs_ck σ 9 o).bind fun _ =>
 hs_b2 (fX7_find fu σ o a1 a2) fun r4 σ2 => hs_mt r4
 (some ((-1), σ2))
 (fun n5 =>
 if a3 = 0 then
 ((hs_gR σ2 7 n5 9).bind fun r8 => hs_mt r8
 (some (0, σ2))
 (fun n9 =>
 (hs_gR σ2 7 n5 9).bind fun r11 => hs_mt r11
 (none)
 (fun n12 =>
 (hs_gI σ2 5 n12 0).bind fun v15 =>
 some (v15, σ2))))
 else
 if a3 = 1 then
 ((hs_gR σ2 7 n5 10).bind fun r18 => hs_mt r18
 (some (0, σ2))
 (fun n19 =>
 some (1, σ2)))
 else
 if a3 = 2 then
 ((hs_gN σ2 7 n5 3).bind fun n22 =>
 (hs_gI σ2 9 o 8).bind fun v24 =>
 (hs_ld σ2 11 n22 v24).bind fun v25 =>
 some (v25, σ2))
 else
 if a3 = 3 then
 ((hs_gI σ2 7 n5 11).bind fun v29 =>
 some (v29, σ2))
 else
 if a3 = 4 then
 ((hs_gI σ2 7 n5 12).bind fun v32 =>
 some (v32, σ2))
 else
 (some ((-1), σ2)))
section SX7_about
variable {p : Program} {l : Launch} {e : Env} {s : State} {m : MethodId} {args : Array Value} {below : List Frame} {meth : Method} {c : Code} {X : hs_X} {ad : Nat → Nat} {A : Nat → Prop} {r : Int32} {τ : hs_T}
set_option maxRecDepth 100000 in
set_option maxHeartbeats 4000000 in
theorem wX7_about_e (fu : Nat) (C : hs_Cx p s m args meth c X A yX7_about cX7_about 5 (some .int) wsX7_about) (hem : ad hs_em = X.2.2.1.2.2.2) {H : Heap} {locs : List Loc} {ls : Array Slot} (σ : hs_T) (o : Nat) (a1 : Int32) (a2 : Int32) (a3 : Int32) (hf : fX7_about fu σ o a1 a2 a3 = some (r, τ)) (hB : hs_H X.1 X.2.1 ad A σ H) (hS : va_S A s.heap H locs) (hl : lv_has ls 5 [(0, .ref (ad o)), (1, .int a1), (2, .int a2), (3, .int a3)]) : W p l e rmX7_about s m args below meth c H locs 0 0 (MQ below (hs_Q0 hs_tvi X ad A r τ) args s 0 0 A) (F0 m 0 ls []) := by
  obtain ⟨hx, hb, hml, hr, hts, hown, hlk, hnm, hV, hA0, hA⟩ := id C
  have hown : s.vm.findClass RX7 = some m.cls := hown
  have hK := hV.1
  have hNw := hV.2.1
  unfold fX7_about at hf
  refine lv_aload_n hx hb dX7_about_0 rfl (lv_at hl 0 rfl) ?_
  refine lv_iload_n hx hb dX7_about_1 rfl (lv_at hl 1 rfl) ?_
  refine lv_iload_n hx hb dX7_about_2 rfl (lv_at hl 2 rfl) ?_
  obtain ⟨_, h3, hf⟩ := hs_bi hf
  obtain ⟨r4, σ2, h1, hf⟩ := hs_b2i hf
  cases r4 with
  | none =>
    have hf := hs_mn hf
    refine hs_call0 (va_runV (As := [.int a1, .int a2]) (rest := []) ⟨hx, hb, hml, hown, hts⟩ (ctX7_find l fu σ o a1 a2 X ad H.size _ _ h1) (cwV 2 hts gX7_about_X7_find rfl rfl rfl (by decide +kernel) ⟨Nat.le_of_ble_eq_true rfl, Nat.le_of_ble_eq_true rfl⟩) (hs_preV (hs_recv hK hB (hs_ck_i h3) (by decide) rfl) hV hB hS hA0 hA hem) rfl rfl hl.1 rfl (lv_room (Nat.le_of_ble_eq_true rfl)) dX7_about_3 ⟨Nat.le_of_ble_eq_true rfl, Nat.le_of_ble_eq_true rfl⟩) hB hS hA rfl (fun H locs hB hS => ?_)
    refine lv_astoreN (lv' := [(4, .null), (0, .ref (ad o)), (1, .int a1), (2, .int a2), (3, .int a3)]) hx hb dX7_about_6 hl (by decide) rfl (fun ls hl => ?_)
    refine lv_aloadN hx hb dX7_about_8 (lv_at hl 0 rfl) ?_
    refine lv_ifnonnullN hx hb dX7_about_10 ?_
    refine lv_iconst (v := (-1)) hx hb dX7_about_13 (by decide) ?_
    obtain ⟨rfl, rfl⟩ := hs_ri hf
    exact hs_iret hx hb hr hlk hB hS dX7_about_14
  | some n5 =>
    have hf := hs_ms hf
    refine hs_call0 (va_runV (As := [.int a1, .int a2]) (rest := []) ⟨hx, hb, hml, hown, hts⟩ (ctX7_find l fu σ o a1 a2 X ad H.size _ _ h1) (cwV 2 hts gX7_about_X7_find rfl rfl rfl (by decide +kernel) ⟨Nat.le_of_ble_eq_true rfl, Nat.le_of_ble_eq_true rfl⟩) (hs_preV (hs_recv hK hB (hs_ck_i h3) (by decide) rfl) hV hB hS hA0 hA hem) rfl rfl hl.1 rfl (lv_room (Nat.le_of_ble_eq_true rfl)) dX7_about_3 ⟨Nat.le_of_ble_eq_true rfl, Nat.le_of_ble_eq_true rfl⟩) hB hS hA rfl (fun H locs hB hS => ?_)
    refine lv_astore (lv' := [(4, .ref (ad n5)), (0, .ref (ad o)), (1, .int a1), (2, .int a2), (3, .int a3)]) hx hb dX7_about_6 hl (by decide) rfl (fun ls hl => ?_)
    refine lv_aload hx hb dX7_about_8 (lv_at hl 0 rfl) ?_
    refine lv_ifnonnull (tgt := 15) hx hb dX7_about_10 (by decide) ?_
    refine lv_iload_n hx hb dX7_about_15 rfl (lv_at hl 4 rfl) ?_
    by_cases h6 : a3 = 0
    · have hf := hs_tt h6 hf
      refine lv_tableIn (tgt := 52) hx hb dX7_about_16 (by rw [h6]; decide) (by rw [h6]; decide) (by rw [h6]; exact rfl) (by decide) ?_
      refine lv_aload hx hb dX7_about_52 (lv_at hl 0 rfl) ?_
      obtain ⟨r8, h7, hf⟩ := hs_bi hf
      cases r8 with
      | none =>
        have hf := hs_mn hf
        refine x_getRnN hx hb hts inX7_about_X5 hown hK hB (by decide) rfl (k := 9) (by decide) rfl h7 (hNw (.fieldLinkNest "ServiceGame" 100 "ServiceGame$Service" "program" "LServiceGame$Program;" "ServiceGame") (by decide +kernel)) (fun _ h9 => h9) dX7_about_54 ?_
        refine lv_ifnonnullN hx hb dX7_about_57 ?_
        refine lv_iconst (v := 0) hx hb dX7_about_60 (by decide) ?_
        refine lv_goto (tgt := 72) hx hb dX7_about_61 (by decide) ?_
        obtain ⟨rfl, rfl⟩ := hs_ri hf
        exact hs_iret hx hb hr hlk hB hS dX7_about_72
      | some n9 =>
        have hf := hs_ms hf
        refine x_getRsN hx hb hts inX7_about_X5 hown hK hB (by decide) rfl (k := 9) (by decide) rfl h7 (hNw (.fieldLinkNest "ServiceGame" 100 "ServiceGame$Service" "program" "LServiceGame$Program;" "ServiceGame") (by decide +kernel)) (fun _ h9 => h9) dX7_about_54 ?_
        refine lv_ifnonnull (tgt := 64) hx hb dX7_about_57 (by decide) ?_
        refine lv_aload hx hb dX7_about_64 (lv_at hl 0 rfl) ?_
        obtain ⟨r11, h10, hf⟩ := hs_bi hf
        cases r11 with
        | none =>
          have hf := hs_mn hf
          refine x_getRnN hx hb hts inX7_about_X5 hown hK hB (by decide) rfl (k := 9) (by decide) rfl h10 (hNw (.fieldLinkNest "ServiceGame" 100 "ServiceGame$Service" "program" "LServiceGame$Program;" "ServiceGame") (by decide +kernel)) (fun _ h9 => h9) dX7_about_66 ?_
          cases hf
        | some n12 =>
          have hf := hs_ms hf
          refine x_getRsN hx hb hts inX7_about_X5 hown hK hB (by decide) rfl (k := 9) (by decide) rfl h10 (hNw (.fieldLinkNest "ServiceGame" 100 "ServiceGame$Service" "program" "LServiceGame$Program;" "ServiceGame") (by decide +kernel)) (fun _ h9 => h9) dX7_about_66 ?_
          obtain ⟨v15, h14, hf⟩ := hs_bi hf
          refine x_getIN hx hb hts inX7_about_X3 hown hK hB (by decide) rfl (k := 0) (by decide) rfl h14 (hNw (.fieldLinkNest "ServiceGame" 94 "ServiceGame$Program" "size" "I" "ServiceGame") (by decide +kernel)) (fun _ h9 => h9) dX7_about_69 ?_
          obtain ⟨rfl, rfl⟩ := hs_ri hf
          exact hs_iret hx hb hr hlk hB hS dX7_about_72
    have hf := hs_ff h6 hf
    by_cases h16 : a3 = 1
    · have hf := hs_tt h16 hf
      refine lv_tableIn (tgt := 73) hx hb dX7_about_16 (by rw [h16]; decide) (by rw [h16]; decide) (by rw [h16]; exact rfl) (by decide) ?_
      refine lv_aload hx hb dX7_about_73 (lv_at hl 0 rfl) ?_
      obtain ⟨r18, h17, hf⟩ := hs_bi hf
      cases r18 with
      | none =>
        have hf := hs_mn hf
        refine x_getRnN hx hb hts inX7_about_X5 hown hK hB (by decide) rfl (k := 10) (by decide) rfl h17 (hNw (.fieldLinkNest "ServiceGame" 90 "ServiceGame$Service" "patch" "LServiceGame$Program;" "ServiceGame") (by decide +kernel)) (fun _ h9 => h9) dX7_about_75 ?_
        refine lv_ifnonnullN hx hb dX7_about_78 ?_
        refine lv_iconst (v := 0) hx hb dX7_about_81 (by decide) ?_
        refine lv_goto (tgt := 86) hx hb dX7_about_82 (by decide) ?_
        obtain ⟨rfl, rfl⟩ := hs_ri hf
        exact hs_iret hx hb hr hlk hB hS dX7_about_86
      | some n19 =>
        have hf := hs_ms hf
        refine x_getRsN hx hb hts inX7_about_X5 hown hK hB (by decide) rfl (k := 10) (by decide) rfl h17 (hNw (.fieldLinkNest "ServiceGame" 90 "ServiceGame$Service" "patch" "LServiceGame$Program;" "ServiceGame") (by decide +kernel)) (fun _ h9 => h9) dX7_about_75 ?_
        refine lv_ifnonnull (tgt := 85) hx hb dX7_about_78 (by decide) ?_
        refine lv_iconst (v := 1) hx hb dX7_about_85 (by decide) ?_
        obtain ⟨rfl, rfl⟩ := hs_ri hf
        exact hs_iret hx hb hr hlk hB hS dX7_about_86
    have hf := hs_ff h16 hf
    by_cases h20 : a3 = 2
    · have hf := hs_tt h20 hf
      refine lv_tableIn (tgt := 87) hx hb dX7_about_16 (by rw [h20]; decide) (by rw [h20]; decide) (by rw [h20]; exact rfl) (by decide) ?_
      refine lv_aload hx hb dX7_about_87 (lv_at hl 0 rfl) ?_
      obtain ⟨n22, h21, hf⟩ := hs_bi hf
      refine x_getNN hx hb hts inX7_about_X5 hown hK hB (by decide) rfl (k := 3) (by decide) rfl h21 (hNw (.fieldLinkNest "ServiceGame" 102 "ServiceGame$Service" "upAhead" "[I" "ServiceGame") (by decide +kernel)) (fun _ h9 => h9) dX7_about_89 ?_
      refine lv_aload_n hx hb dX7_about_92 rfl (lv_at hl 1 rfl) ?_
      obtain ⟨v24, h23, hf⟩ := hs_bi hf
      refine x_getI hx hb hts inX7_about_X7 hown hK hB (by decide) rfl (k := 8) (by decide) rfl h23 (hts _ lkX7_about_0) (fun _ h9 => h9) dX7_about_93 ?_
      obtain ⟨v25, h26, hf⟩ := hs_bi hf
      refine x_iald hx hb hK hB h26 dX7_about_96 ?_
      obtain ⟨rfl, rfl⟩ := hs_ri hf
      exact hs_iret hx hb hr hlk hB hS dX7_about_97
    have hf := hs_ff h20 hf
    by_cases h27 : a3 = 3
    · have hf := hs_tt h27 hf
      refine lv_tableIn (tgt := 98) hx hb dX7_about_16 (by rw [h27]; decide) (by rw [h27]; decide) (by rw [h27]; exact rfl) (by decide) ?_
      refine lv_aload hx hb dX7_about_98 (lv_at hl 0 rfl) ?_
      obtain ⟨v29, h28, hf⟩ := hs_bi hf
      refine x_getIN hx hb hts inX7_about_X5 hown hK hB (by decide) rfl (k := 11) (by decide) rfl h28 (hNw (.fieldLinkNest "ServiceGame" 105 "ServiceGame$Service" "broken" "I" "ServiceGame") (by decide +kernel)) (fun _ h9 => h9) dX7_about_100 ?_
      obtain ⟨rfl, rfl⟩ := hs_ri hf
      exact hs_iret hx hb hr hlk hB hS dX7_about_103
    have hf := hs_ff h27 hf
    by_cases h30 : a3 = 4
    · have hf := hs_tt h30 hf
      refine lv_tableIn (tgt := 104) hx hb dX7_about_16 (by rw [h30]; decide) (by rw [h30]; decide) (by rw [h30]; exact rfl) (by decide) ?_
      refine lv_aload hx hb dX7_about_104 (lv_at hl 0 rfl) ?_
      obtain ⟨v32, h31, hf⟩ := hs_bi hf
      refine x_getIN hx hb hts inX7_about_X5 hown hK hB (by decide) rfl (k := 12) (by decide) rfl h31 (hNw (.fieldLinkNest "ServiceGame" 108 "ServiceGame$Service" "ranDry" "I" "ServiceGame") (by decide +kernel)) (fun _ h9 => h9) dX7_about_106 ?_
      obtain ⟨rfl, rfl⟩ := hs_ri hf
      exact hs_iret hx hb hr hlk hB hS dX7_about_109
    have hf := hs_ff h30 hf
    refine lv_tableOut (tgt := 110) hx hb dX7_about_16 (by have g0 := lv_neT h6 (a := 0) (by decide); have g1 := lv_neT h16 (a := 1) (by decide); have g2 := lv_neT h20 (a := 2) (by decide); have g3 := lv_neT h27 (a := 3) (by decide); have g4 := lv_neT h30 (a := 4) (by decide); omega) (by decide) ?_
    refine lv_iconst (v := (-1)) hx hb dX7_about_110 (by decide) ?_
    obtain ⟨rfl, rfl⟩ := hs_ri hf
    exact hs_iret hx hb hr hlk hB hS dX7_about_111
end SX7_about
set_option maxRecDepth 100000 in
theorem ctX7_about (l : Launch) (fu : Nat) (σ : hs_T) (o : Nat) (a1 : Int32) (a2 : Int32) (a3 : Int32) : hs_C0 hs_tvi l yX7_about wsX7_about rmX7_about (fun ad => [.ref (ad o), .int a1, .int a2, .int a3]) σ (fX7_about fu σ o a1 a2 a3) := by
  intro X ad sz r τ hf
  refine hs_enter (cc := cX7_about) (maxL := 5) (ret := (some .int)) (by decide) rfl (Nat.le_of_ble_eq_true rfl) ?_
  intro p e s m below meth c ls C hl hem hB hS hsz
  exact wX7_about_e fu C hem σ o a1 a2 a3 hf hB hS hl
/-! ServiceGame.set(II)I -/
abbrev rmX7_set : Room := { frames := 0, cells := 0, slots := 0, locals := 0 }
theorem inX7_set_X7 : ∀ w ∈ wsX70, w ∈ wsX7_set := fun _ h => List.mem_cons_of_mem _ (List.mem_append_right _ h)
theorem lkX7_set_0 : Cond.fieldLink RX7 111 "ServiceGame" "LEAST" "[I" ∈ wsX7_set := by decide +kernel
theorem lkX7_set_1 : Cond.fieldLink RX7 114 "ServiceGame" "MOST" "[I" ∈ wsX7_set := by decide +kernel
theorem lkX7_set_2 : Cond.fieldLink RX7 54 "ServiceGame" "rounds" "I" ∈ wsX7_set := by decide +kernel
theorem lkX7_set_3 : Cond.fieldLink RX7 7 "ServiceGame" "settings" "[I" ∈ wsX7_set := by decide +kernel
def fX7_set_53 (fu : Nat)  (σ : hs_T) (x0 : Nat) (x1 : Int32) (x2 : Int32) : Option (Int32 × hs_T) :=
 (hs_gN σ 9 x0 0).bind fun n13 =>
 (hs_ld σ 11 n13 x1).bind fun v14 =>
 (hs_gN σ 9 x0 0).bind fun n17 =>
 (hs_st σ 11 n17 x1 x2).bind fun σ18 =>
 some (v14, σ18)
def fX7_set (fu : Nat) (σ : hs_T) (o : Nat) (a1 : Int32) (a2 : Int32) : Option (Int32 × hs_T) :=
 if a1 < 0 then
 (some ((-1), σ))
 else
 (if a1 < 7 then
 ((hs_tb 7 hs_t1 a1).bind fun v3 =>
 if a2 < v3 then
 (some ((-2), σ))
 else
 ((hs_tb 7 hs_t2 a1).bind fun v6 =>
 if a2 ≤ v6 then
 ((hs_gI σ 9 o 8).bind fun v10 =>
 if v10 ≤ 0 then
 (fX7_set_53 fu σ o a1 a2)
 else
 (if a1 = 1 then
 (some ((-3), σ))
 else
 (if a1 = 2 then
 (some ((-3), σ))
 else
 (fX7_set_53 fu σ o a1 a2))))
 else
 (some ((-2), σ))))
 else
 (some ((-1), σ)))
section SX7_set
variable {p : Program} {l : Launch} {e : Env} {s : State} {m : MethodId} {args : Array Value} {below : List Frame} {meth : Method} {c : Code} {X : hs_X} {ad : Nat → Nat} {A : Nat → Prop} {r : Int32} {τ : hs_T}
set_option maxRecDepth 100000 in
set_option maxHeartbeats 4000000 in
theorem wX7_set_53 (fu : Nat) (C : hs_Cx p s m args meth c X A yX7_set cX7_set 4 (some .int) wsX7_set) (hem : ad hs_em = X.2.2.1.2.2.2)  {H : Heap} {locs : List Loc} {ls : Array Slot} (σ : hs_T) (x0 : Nat) (x1 : Int32) (x2 : Int32) (hf : fX7_set_53 fu  σ x0 x1 x2 = some (r, τ)) (hB : hs_H X.1 X.2.1 ad A σ H) (hS : va_S A s.heap H locs) (hl : lv_has ls 4 [(0, .ref (ad x0)), (1, .int x1), (2, .int x2)]) : W p l e rmX7_set s m args below meth c H locs 0 0 (MQ below (hs_Q0 hs_tvi X ad A r τ) args s 0 0 A) (F0 m 53 ls []) := by
  obtain ⟨hx, hb, hml, hr, hts, hown, hlk, hnm, hV, hA0, hA⟩ := id C
  have hown : s.vm.findClass RX7 = some m.cls := hown
  have hK := hV.1
  have hNw := hV.2.1
  unfold fX7_set_53 at hf
  refine lv_aload_n hx hb dX7_set_53 rfl (lv_at hl 0 rfl) ?_
  obtain ⟨n13, h12, hf⟩ := hs_bi hf
  refine x_getN hx hb hts inX7_set_X7 hown hK hB (by decide) rfl (k := 0) (by decide) rfl h12 (hts _ lkX7_set_3) (fun _ h9 => h9) dX7_set_54 ?_
  refine lv_iload_n hx hb dX7_set_57 rfl (lv_at hl 1 rfl) ?_
  obtain ⟨v14, h15, hf⟩ := hs_bi hf
  refine x_iald hx hb hK hB h15 dX7_set_58 ?_
  refine lv_istore_n (lv' := [(3, .int v14), (0, .ref (ad x0)), (1, .int x1), (2, .int x2)]) hx hb dX7_set_59 rfl hl (by decide) rfl (fun ls hl => ?_)
  refine lv_aload_n hx hb dX7_set_60 rfl (lv_at hl 1 rfl) ?_
  obtain ⟨n17, h16, hf⟩ := hs_bi hf
  refine x_getN hx hb hts inX7_set_X7 hown hK hB (by decide) rfl (k := 0) (by decide) rfl h16 (hts _ lkX7_set_3) (fun _ h9 => h9) dX7_set_61 ?_
  refine lv_iload_n hx hb dX7_set_64 rfl (lv_at hl 2 rfl) ?_
  refine lv_iload_n hx hb dX7_set_65 rfl (lv_at hl 3 rfl) ?_
  obtain ⟨σ18, h19, hf⟩ := hs_bi hf
  refine x_iast hx hb hK hB hS h19 dX7_set_66 (fun H locs hB hS => ?_)
  refine lv_iload_n hx hb dX7_set_67 rfl (lv_at hl 0 rfl) ?_
  obtain ⟨rfl, rfl⟩ := hs_ri hf
  exact hs_iret hx hb hr hlk hB hS dX7_set_68
set_option maxRecDepth 100000 in
set_option maxHeartbeats 4000000 in
theorem wX7_set_e (fu : Nat) (C : hs_Cx p s m args meth c X A yX7_set cX7_set 4 (some .int) wsX7_set) (hem : ad hs_em = X.2.2.1.2.2.2) {H : Heap} {locs : List Loc} {ls : Array Slot} (σ : hs_T) (o : Nat) (a1 : Int32) (a2 : Int32) (hf : fX7_set fu σ o a1 a2 = some (r, τ)) (hB : hs_H X.1 X.2.1 ad A σ H) (hS : va_S A s.heap H locs) (hl : lv_has ls 4 [(0, .ref (ad o)), (1, .int a1), (2, .int a2)]) : W p l e rmX7_set s m args below meth c H locs 0 0 (MQ below (hs_Q0 hs_tvi X ad A r τ) args s 0 0 A) (F0 m 0 ls []) := by
  obtain ⟨hx, hb, hml, hr, hts, hown, hlk, hnm, hV, hA0, hA⟩ := id C
  have hown : s.vm.findClass RX7 = some m.cls := hown
  have hK := hV.1
  have hNw := hV.2.1
  unfold fX7_set at hf
  refine lv_iload_n hx hb dX7_set_0 rfl (lv_at hl 1 rfl) ?_
  refine lv_if_lt (tgt := 10) hx hb dX7_set_1 (by decide) (fun h1 => ?_) (fun h1 => ?_)
  · have hf := hs_tt h1 hf
    refine lv_iconst (v := (-1)) hx hb dX7_set_10 (by decide) ?_
    obtain ⟨rfl, rfl⟩ := hs_ri hf
    exact hs_iret hx hb hr hlk hB hS dX7_set_11
  · have hf := hs_ff h1 hf
    refine lv_iload_n hx hb dX7_set_4 rfl (lv_at hl 1 rfl) ?_
    refine lv_bipush (v := 7) hx hb dX7_set_5 (by decide) ?_
    refine lv_icmp_lt (tgt := 12) hx hb dX7_set_7 (by decide) (fun h2 => ?_) (fun h2 => ?_)
    · have hf := hs_tt h2 hf
      refine lv_iload_n hx hb dX7_set_12 rfl (lv_at hl 2 rfl) ?_
      refine hs_tget hx hb hV.2.2.2.2.2.1 hA0 hS hown (hts _ lkX7_set_0) (fun _ h9 => h9) dX7_set_13 ?_
      refine lv_iload_n hx hb dX7_set_16 rfl (lv_at hl 1 rfl) ?_
      obtain ⟨v3, h4, hf⟩ := hs_bi hf
      refine x_tld hx hb hV.2.2.2.2.2.1 hA0 hS h4 dX7_set_17 ?_
      refine lv_icmp_lt (tgt := 30) hx hb dX7_set_18 (by decide) (fun h5 => ?_) (fun h5 => ?_)
      · have hf := hs_tt h5 hf
        refine lv_bipush (v := (-2)) hx hb dX7_set_30 (by decide) ?_
        obtain ⟨rfl, rfl⟩ := hs_ri hf
        exact hs_iret hx hb hr hlk hB hS dX7_set_32
      · have hf := hs_ff h5 hf
        refine lv_iload_n hx hb dX7_set_21 rfl (lv_at hl 2 rfl) ?_
        refine hs_tget hx hb hV.2.2.2.2.2.2.1 hA0 hS hown (hts _ lkX7_set_1) (fun _ h9 => h9) dX7_set_22 ?_
        refine lv_iload_n hx hb dX7_set_25 rfl (lv_at hl 1 rfl) ?_
        obtain ⟨v6, h7, hf⟩ := hs_bi hf
        refine x_tld hx hb hV.2.2.2.2.2.2.1 hA0 hS h7 dX7_set_26 ?_
        refine lv_icmp_le (tgt := 33) hx hb dX7_set_27 (by decide) (fun h8 => ?_) (fun h8 => ?_)
        · have hf := hs_tt h8 hf
          refine lv_aload_n hx hb dX7_set_33 rfl (lv_at hl 0 rfl) ?_
          obtain ⟨v10, h9, hf⟩ := hs_bi hf
          refine x_getI hx hb hts inX7_set_X7 hown hK hB (by decide) rfl (k := 8) (by decide) rfl h9 (hts _ lkX7_set_2) (fun _ h9 => h9) dX7_set_34 ?_
          refine lv_if_le (tgt := 53) hx hb dX7_set_37 (by decide) (fun h11 => ?_) (fun h11 => ?_)
          · have hf := hs_tt h11 hf
            exact wX7_set_53 fu C hem σ o a1 a2 hf hB hS hl
          · have hf := hs_ff h11 hf
            refine lv_iload_n hx hb dX7_set_40 rfl (lv_at hl 1 rfl) ?_
            refine lv_iconst (v := 1) hx hb dX7_set_41 (by decide) ?_
            refine lv_icmp_eq (tgt := 50) hx hb dX7_set_42 (by decide) (fun h20 => ?_) (fun h20 => ?_)
            · have hf := hs_tt h20 hf
              refine lv_bipush (v := (-3)) hx hb dX7_set_50 (by decide) ?_
              obtain ⟨rfl, rfl⟩ := hs_ri hf
              exact hs_iret hx hb hr hlk hB hS dX7_set_52
            · have hf := hs_ff h20 hf
              refine lv_iload_n hx hb dX7_set_45 rfl (lv_at hl 1 rfl) ?_
              refine lv_iconst (v := 2) hx hb dX7_set_46 (by decide) ?_
              refine lv_icmp_ne (tgt := 53) hx hb dX7_set_47 (by decide) (fun h21 => ?_) (fun h21 => ?_)
              · have hf := hs_ff h21 hf
                exact wX7_set_53 fu C hem σ o a1 a2 hf hB hS hl
              · have hf := hs_tt h21 hf
                refine lv_bipush (v := (-3)) hx hb dX7_set_50 (by decide) ?_
                obtain ⟨rfl, rfl⟩ := hs_ri hf
                exact hs_iret hx hb hr hlk hB hS dX7_set_52
        · have hf := hs_ff h8 hf
          refine lv_bipush (v := (-2)) hx hb dX7_set_30 (by decide) ?_
          obtain ⟨rfl, rfl⟩ := hs_ri hf
          exact hs_iret hx hb hr hlk hB hS dX7_set_32
    · have hf := hs_ff h2 hf
      refine lv_iconst (v := (-1)) hx hb dX7_set_10 (by decide) ?_
      obtain ⟨rfl, rfl⟩ := hs_ri hf
      exact hs_iret hx hb hr hlk hB hS dX7_set_11
end SX7_set
set_option maxRecDepth 100000 in
theorem ctX7_set (l : Launch) (fu : Nat) (σ : hs_T) (o : Nat) (a1 : Int32) (a2 : Int32) : hs_C0 hs_tvi l yX7_set wsX7_set rmX7_set (fun ad => [.ref (ad o), .int a1, .int a2]) σ (fX7_set fu σ o a1 a2) := by
  intro X ad sz r τ hf
  refine hs_enter (cc := cX7_set) (maxL := 4) (ret := (some .int)) (by decide) rfl (Nat.le_of_ble_eq_true rfl) ?_
  intro p e s m below meth c ls C hl hem hB hS hsz
  exact wX7_set_e fu C hem σ o a1 a2 hf hB hS hl
/-! ServiceGame.mix(ILServiceGame$Service;)I -/
abbrev rmX7_mix : Room := { frames := 0, cells := 0, slots := 0, locals := 0 }
theorem inX7_mix_X5 : ∀ w ∈ wsX50, w ∈ wsX7_mix := fun _ h => List.mem_cons_of_mem _ (List.mem_append_right _ h)
theorem inX7_mix_X7 : ∀ w ∈ wsX70, w ∈ wsX7_mix := fun _ h => List.mem_cons_of_mem _ (List.mem_append_left _ (List.mem_append_right _ h))
theorem lkX7_mix_0 : Cond.fieldLink RX7 7 "ServiceGame" "settings" "[I" ∈ wsX7_mix := by decide +kernel
def fX7_mix (fu : Nat) (σ : hs_T) (o : Nat) (a1 : Int32) (a2 : Nat) : Option (Int32 × hs_T) :=
 (hs_gN σ 9 o 0).bind fun n2 =>
 (hs_ld σ 11 n2 1).bind fun v3 =>
 (hs_gI σ 7 a2 0).bind fun v6 =>
 (hs_gI σ 7 a2 1).bind fun v8 =>
 some ((((((v3 * 31) + (a1 * 17)) + (v6 * 7)) + (v8 * 3)) - ((((v3 * 31) + (a1 * 17)) + (v6 * 7)) + (v8 * 3)) / 997 * 997), σ)
section SX7_mix
variable {p : Program} {l : Launch} {e : Env} {s : State} {m : MethodId} {args : Array Value} {below : List Frame} {meth : Method} {c : Code} {X : hs_X} {ad : Nat → Nat} {A : Nat → Prop} {r : Int32} {τ : hs_T}
set_option maxRecDepth 100000 in
set_option maxHeartbeats 4000000 in
theorem wX7_mix_e (fu : Nat) (C : hs_Cx p s m args meth c X A yX7_mix cX7_mix 3 (some .int) wsX7_mix) (hem : ad hs_em = X.2.2.1.2.2.2) {H : Heap} {locs : List Loc} {ls : Array Slot} (σ : hs_T) (o : Nat) (a1 : Int32) (a2 : Nat) (hf : fX7_mix fu σ o a1 a2 = some (r, τ)) (hB : hs_H X.1 X.2.1 ad A σ H) (hS : va_S A s.heap H locs) (hl : lv_has ls 3 [(0, .ref (ad o)), (1, .int a1), (2, .ref (ad a2))]) : W p l e rmX7_mix s m args below meth c H locs 0 0 (MQ below (hs_Q0 hs_tvi X ad A r τ) args s 0 0 A) (F0 m 0 ls []) := by
  obtain ⟨hx, hb, hml, hr, hts, hown, hlk, hnm, hV, hA0, hA⟩ := id C
  have hown : s.vm.findClass RX7 = some m.cls := hown
  have hK := hV.1
  have hNw := hV.2.1
  unfold fX7_mix at hf
  refine lv_aload_n hx hb dX7_mix_0 rfl (lv_at hl 0 rfl) ?_
  obtain ⟨n2, h1, hf⟩ := hs_bi hf
  refine x_getN hx hb hts inX7_mix_X7 hown hK hB (by decide) rfl (k := 0) (by decide) rfl h1 (hts _ lkX7_mix_0) (fun _ h9 => h9) dX7_mix_1 ?_
  refine lv_iconst (v := 1) hx hb dX7_mix_4 (by decide) ?_
  obtain ⟨v3, h4, hf⟩ := hs_bi hf
  refine x_iald hx hb hK hB h4 dX7_mix_5 ?_
  refine lv_bipush (v := 31) hx hb dX7_mix_6 (by decide) ?_
  refine lv_imul hx hb dX7_mix_8 ?_
  refine lv_iload_n hx hb dX7_mix_9 rfl (lv_at hl 1 rfl) ?_
  refine lv_bipush (v := 17) hx hb dX7_mix_10 (by decide) ?_
  refine lv_imul hx hb dX7_mix_12 ?_
  refine lv_iadd hx hb dX7_mix_13 ?_
  refine lv_aload_n hx hb dX7_mix_14 rfl (lv_at hl 2 rfl) ?_
  obtain ⟨v6, h5, hf⟩ := hs_bi hf
  refine x_getIN hx hb hts inX7_mix_X5 hown hK hB (by decide) rfl (k := 0) (by decide) rfl h5 (hNw (.fieldLinkNest "ServiceGame" 222 "ServiceGame$Service" "team" "I" "ServiceGame") (by decide +kernel)) (fun _ h9 => h9) dX7_mix_15 ?_
  refine lv_bipush (v := 7) hx hb dX7_mix_18 (by decide) ?_
  refine lv_imul hx hb dX7_mix_20 ?_
  refine lv_iadd hx hb dX7_mix_21 ?_
  refine lv_aload_n hx hb dX7_mix_22 rfl (lv_at hl 2 rfl) ?_
  obtain ⟨v8, h7, hf⟩ := hs_bi hf
  refine x_getIN hx hb hts inX7_mix_X5 hown hK hB (by decide) rfl (k := 1) (by decide) rfl h7 (hNw (.fieldLinkNest "ServiceGame" 232 "ServiceGame$Service" "number" "I" "ServiceGame") (by decide +kernel)) (fun _ h9 => h9) dX7_mix_23 ?_
  refine lv_iconst (v := 3) hx hb dX7_mix_26 (by decide) ?_
  refine lv_imul hx hb dX7_mix_27 ?_
  refine lv_iadd hx hb dX7_mix_28 ?_
  refine lv_sipush (v := 997) hx hb dX7_mix_29 (by decide) ?_
  refine lv_irem hx hb dX7_mix_32 (by decide) ?_
  obtain ⟨rfl, rfl⟩ := hs_ri hf
  exact hs_iret hx hb hr hlk hB hS dX7_mix_33
end SX7_mix
set_option maxRecDepth 100000 in
theorem ctX7_mix (l : Launch) (fu : Nat) (σ : hs_T) (o : Nat) (a1 : Int32) (a2 : Nat) : hs_C0 hs_tvi l yX7_mix wsX7_mix rmX7_mix (fun ad => [.ref (ad o), .int a1, .ref (ad a2)]) σ (fX7_mix fu σ o a1 a2) := by
  intro X ad sz r τ hf
  refine hs_enter (cc := cX7_mix) (maxL := 3) (ret := (some .int)) (by decide) rfl (Nat.le_of_ble_eq_true rfl) ?_
  intro p e s m below meth c ls C hl hem hB hS hsz
  exact wX7_mix_e fu C hem σ o a1 a2 hf hB hS hl
/-! ServiceGame.flagOf(I)I -/
abbrev rmX7_flagOf : Room := { frames := 0, cells := 0, slots := 0, locals := 0 }
def fX7_flagOf (fu : Nat) (σ : hs_T) (a1 : Int32) : Option (Int32 × hs_T) :=
 some ((((a1 * 13) + 1000) - ((a1 * 13) + 1000) / 10000 * 10000), σ)
section SX7_flagOf
variable {p : Program} {l : Launch} {e : Env} {s : State} {m : MethodId} {args : Array Value} {below : List Frame} {meth : Method} {c : Code} {X : hs_X} {ad : Nat → Nat} {A : Nat → Prop} {r : Int32} {τ : hs_T}
set_option maxRecDepth 100000 in
set_option maxHeartbeats 4000000 in
theorem wX7_flagOf_e (fu : Nat) (C : hs_Cx p s m args meth c X A yX7_flagOf cX7_flagOf 1 (some .int) wsX7_flagOf) (hem : ad hs_em = X.2.2.1.2.2.2) {H : Heap} {locs : List Loc} {ls : Array Slot} (σ : hs_T) (a1 : Int32) (hf : fX7_flagOf fu σ a1 = some (r, τ)) (hB : hs_H X.1 X.2.1 ad A σ H) (hS : va_S A s.heap H locs) (hl : lv_has ls 1 [(0, .int a1)]) : W p l e rmX7_flagOf s m args below meth c H locs 0 0 (MQ below (hs_Q0 hs_tvi X ad A r τ) args s 0 0 A) (F0 m 0 ls []) := by
  obtain ⟨hx, hb, hml, hr, hts, hown, hlk, hnm, hV, hA0, hA⟩ := id C
  have hown : s.vm.findClass RX7 = some m.cls := hown
  have hK := hV.1
  have hNw := hV.2.1
  unfold fX7_flagOf at hf
  refine lv_iload_n hx hb dX7_flagOf_0 rfl (lv_at hl 0 rfl) ?_
  refine lv_bipush (v := 13) hx hb dX7_flagOf_1 (by decide) ?_
  refine lv_imul hx hb dX7_flagOf_3 ?_
  refine lv_sipush (v := 1000) hx hb dX7_flagOf_4 (by decide) ?_
  refine lv_iadd hx hb dX7_flagOf_7 ?_
  refine lv_sipush (v := 10000) hx hb dX7_flagOf_8 (by decide) ?_
  refine lv_irem hx hb dX7_flagOf_11 (by decide) ?_
  obtain ⟨rfl, rfl⟩ := hs_ri hf
  exact hs_iret hx hb hr hlk hB hS dX7_flagOf_12
end SX7_flagOf
set_option maxRecDepth 100000 in
theorem ctX7_flagOf (l : Launch) (fu : Nat) (σ : hs_T) (a1 : Int32) : hs_C0 hs_tvi l yX7_flagOf wsX7_flagOf rmX7_flagOf (fun ad => [.int a1]) σ (fX7_flagOf fu σ a1) := by
  intro X ad sz r τ hf
  refine hs_enter (cc := cX7_flagOf) (maxL := 1) (ret := (some .int)) (by decide) rfl (Nat.le_of_ble_eq_true rfl) ?_
  intro p e s m below meth c ls C hl hem hB hS hsz
  exact wX7_flagOf_e fu C hem σ a1 hf hB hS hl
/-! ServiceGame.checkNumber(II)I -/
abbrev rmX7_checkNumber : Room := { frames := 1, cells := 0, slots := 0, locals := 20 }
def fX7_checkNumber (fu : Nat) (σ : hs_T) (a1 : Int32) (a2 : Int32) : Option (Int32 × hs_T) :=
 if a1 = 0 then
 (some (a2, σ))
 else
 (if a1 = 1 then
 (hs_b2 (fX7_flagOf fu σ a2) fun v5 σ4 =>
 some (v5, σ4))
 else
 (some (0, σ)))
section SX7_checkNumber
variable {p : Program} {l : Launch} {e : Env} {s : State} {m : MethodId} {args : Array Value} {below : List Frame} {meth : Method} {c : Code} {X : hs_X} {ad : Nat → Nat} {A : Nat → Prop} {r : Int32} {τ : hs_T}
set_option maxRecDepth 100000 in
set_option maxHeartbeats 4000000 in
theorem wX7_checkNumber_e (fu : Nat) (C : hs_Cx p s m args meth c X A yX7_checkNumber cX7_checkNumber 2 (some .int) wsX7_checkNumber) (hem : ad hs_em = X.2.2.1.2.2.2) {H : Heap} {locs : List Loc} {ls : Array Slot} (σ : hs_T) (a1 : Int32) (a2 : Int32) (hf : fX7_checkNumber fu σ a1 a2 = some (r, τ)) (hB : hs_H X.1 X.2.1 ad A σ H) (hS : va_S A s.heap H locs) (hl : lv_has ls 2 [(0, .int a1), (1, .int a2)]) : W p l e rmX7_checkNumber s m args below meth c H locs 0 0 (MQ below (hs_Q0 hs_tvi X ad A r τ) args s 0 0 A) (F0 m 0 ls []) := by
  obtain ⟨hx, hb, hml, hr, hts, hown, hlk, hnm, hV, hA0, hA⟩ := id C
  have hown : s.vm.findClass RX7 = some m.cls := hown
  have hK := hV.1
  have hNw := hV.2.1
  unfold fX7_checkNumber at hf
  refine lv_iload_n hx hb dX7_checkNumber_0 rfl (lv_at hl 0 rfl) ?_
  refine lv_if_ne (tgt := 6) hx hb dX7_checkNumber_1 (by decide) (fun h1 => ?_) (fun h1 => ?_)
  · have hf := hs_ff h1 hf
    refine lv_iload_n hx hb dX7_checkNumber_6 rfl (lv_at hl 0 rfl) ?_
    refine lv_iconst (v := 1) hx hb dX7_checkNumber_7 (by decide) ?_
    refine lv_icmp_ne (tgt := 18) hx hb dX7_checkNumber_8 (by decide) (fun h2 => ?_) (fun h2 => ?_)
    · have hf := hs_ff h2 hf
      refine lv_iconst (v := 0) hx hb dX7_checkNumber_18 (by decide) ?_
      obtain ⟨rfl, rfl⟩ := hs_ri hf
      exact hs_iret hx hb hr hlk hB hS dX7_checkNumber_19
    · have hf := hs_tt h2 hf
      refine lv_iload_n hx hb dX7_checkNumber_11 rfl (lv_at hl 1 rfl) ?_
      obtain ⟨v5, σ4, h3, hf⟩ := hs_b2i hf
      refine hs_call0 (va_runS (As := [.int a2]) (rest := []) ⟨hx, hb, hml, hown, hts⟩ (ctX7_flagOf l fu σ a2 X ad H.size _ _ h3) (va_cwS 1 hts gX7_checkNumber_X7_flagOf rfl rfl rfl (by decide +kernel) ⟨Nat.le_of_ble_eq_true rfl, Nat.le_of_ble_eq_true rfl⟩) (hs_pre hV hB hS hA0 hA hem) rfl rfl hl.1 rfl (lv_room (Nat.le_of_ble_eq_true rfl)) dX7_checkNumber_12 ⟨Nat.le_of_ble_eq_true rfl, Nat.le_of_ble_eq_true rfl⟩) hB hS hA rfl (fun H locs hB hS => ?_)
      refine lv_goto (tgt := 19) hx hb dX7_checkNumber_15 (by decide) ?_
      obtain ⟨rfl, rfl⟩ := hs_ri hf
      exact hs_iret hx hb hr hlk hB hS dX7_checkNumber_19
  · have hf := hs_tt h1 hf
    refine lv_iload_n hx hb dX7_checkNumber_4 rfl (lv_at hl 1 rfl) ?_
    obtain ⟨rfl, rfl⟩ := hs_ri hf
    exact hs_iret hx hb hr hlk hB hS dX7_checkNumber_5
end SX7_checkNumber
set_option maxRecDepth 100000 in
theorem ctX7_checkNumber (l : Launch) (fu : Nat) (σ : hs_T) (a1 : Int32) (a2 : Int32) : hs_C0 hs_tvi l yX7_checkNumber wsX7_checkNumber rmX7_checkNumber (fun ad => [.int a1, .int a2]) σ (fX7_checkNumber fu σ a1 a2) := by
  intro X ad sz r τ hf
  refine hs_enter (cc := cX7_checkNumber) (maxL := 2) (ret := (some .int)) (by decide) rfl (Nat.le_of_ble_eq_true rfl) ?_
  intro p e s m below meth c ls C hl hem hB hS hsz
  exact wX7_checkNumber_e fu C hem σ a1 a2 hf hB hS hl
/-! ServiceGame.dueAnswer(ILServiceGame$Service;IZ)I -/
abbrev rmX7_dueAnswer : Room := { frames := 1, cells := 0, slots := 0, locals := 22 }
theorem inX7_dueAnswer_X5 : ∀ w ∈ wsX50, w ∈ wsX7_dueAnswer := fun _ h => List.mem_cons_of_mem _ (List.mem_append_right _ h)
theorem inX7_dueAnswer_X7 : ∀ w ∈ wsX70, w ∈ wsX7_dueAnswer := fun _ h => List.mem_cons_of_mem _ (List.mem_append_left _ (List.mem_append_right _ h))
theorem lkX7_dueAnswer_0 : Cond.fieldLink RX7 54 "ServiceGame" "rounds" "I" ∈ wsX7_dueAnswer := by decide +kernel
theorem lkX7_dueAnswer_1 : Cond.fieldLink RX7 7 "ServiceGame" "settings" "[I" ∈ wsX7_dueAnswer := by decide +kernel
def fX7_dueAnswer (fu : Nat) (σ : hs_T) (o : Nat) (a1 : Int32) (a2 : Nat) (a3 : Int32) (a4 : Int32) : Option (Int32 × hs_T) :=
 if a1 = 0 then
 ((hs_gN σ 9 o 0).bind fun n20 =>
 (hs_gI σ 7 a2 1).bind fun v22 =>
 (hs_ld σ 11 n20 (4 + v22)).bind fun v23 =>
 some (((a3 + v23) - (a3 + v23) / 10000 * 10000), σ))
 else
 (if a1 = 1 then
 (some (0, σ))
 else
 (if a4 = 0 then
 ((hs_gI σ 9 o 8).bind fun v5 =>
 if v5 = 0 then
 (some ((-1), σ))
 else
 ((hs_gI σ 9 o 8).bind fun v8 =>
 (hs_ck σ 9 o).bind fun _ =>
 hs_b2 (fX7_mix fu σ o (v8 - 1) a2) fun v12 σ10 =>
 hs_b2 (fX7_flagOf fu σ10 v12) fun v15 σ14 =>
 some (v15, σ14)))
 else
 (hs_b2 (fX7_flagOf fu σ a3) fun v18 σ17 =>
 some (v18, σ17))))
section SX7_dueAnswer
variable {p : Program} {l : Launch} {e : Env} {s : State} {m : MethodId} {args : Array Value} {below : List Frame} {meth : Method} {c : Code} {X : hs_X} {ad : Nat → Nat} {A : Nat → Prop} {r : Int32} {τ : hs_T}
set_option maxRecDepth 100000 in
set_option maxHeartbeats 4000000 in
theorem wX7_dueAnswer_e (fu : Nat) (C : hs_Cx p s m args meth c X A yX7_dueAnswer cX7_dueAnswer 5 (some .int) wsX7_dueAnswer) (hem : ad hs_em = X.2.2.1.2.2.2) {H : Heap} {locs : List Loc} {ls : Array Slot} (σ : hs_T) (o : Nat) (a1 : Int32) (a2 : Nat) (a3 : Int32) (a4 : Int32) (hf : fX7_dueAnswer fu σ o a1 a2 a3 a4 = some (r, τ)) (hB : hs_H X.1 X.2.1 ad A σ H) (hS : va_S A s.heap H locs) (hl : lv_has ls 5 [(0, .ref (ad o)), (1, .int a1), (2, .ref (ad a2)), (3, .int a3), (4, .int a4)]) : W p l e rmX7_dueAnswer s m args below meth c H locs 0 0 (MQ below (hs_Q0 hs_tvi X ad A r τ) args s 0 0 A) (F0 m 0 ls []) := by
  obtain ⟨hx, hb, hml, hr, hts, hown, hlk, hnm, hV, hA0, hA⟩ := id C
  have hown : s.vm.findClass RX7 = some m.cls := hown
  have hK := hV.1
  have hNw := hV.2.1
  unfold fX7_dueAnswer at hf
  refine lv_iload_n hx hb dX7_dueAnswer_0 rfl (lv_at hl 1 rfl) ?_
  refine lv_if_ne (tgt := 22) hx hb dX7_dueAnswer_1 (by decide) (fun h1 => ?_) (fun h1 => ?_)
  · have hf := hs_ff h1 hf
    refine lv_iload_n hx hb dX7_dueAnswer_22 rfl (lv_at hl 1 rfl) ?_
    refine lv_iconst (v := 1) hx hb dX7_dueAnswer_23 (by decide) ?_
    refine lv_icmp_ne (tgt := 29) hx hb dX7_dueAnswer_24 (by decide) (fun h2 => ?_) (fun h2 => ?_)
    · have hf := hs_ff h2 hf
      refine lv_iload hx hb dX7_dueAnswer_29 (lv_at hl 4 rfl) ?_
      refine lv_if_eq (tgt := 39) hx hb dX7_dueAnswer_31 (by decide) (fun h3 => ?_) (fun h3 => ?_)
      · have hf := hs_tt h3 hf
        refine lv_aload_n hx hb dX7_dueAnswer_39 rfl (lv_at hl 0 rfl) ?_
        obtain ⟨v5, h4, hf⟩ := hs_bi hf
        refine x_getI hx hb hts inX7_dueAnswer_X7 hown hK hB (by decide) rfl (k := 8) (by decide) rfl h4 (hts _ lkX7_dueAnswer_0) (fun _ h9 => h9) dX7_dueAnswer_40 ?_
        refine lv_if_ne (tgt := 50) hx hb dX7_dueAnswer_43 (by decide) (fun h6 => ?_) (fun h6 => ?_)
        · have hf := hs_ff h6 hf
          refine lv_aload_n hx hb dX7_dueAnswer_50 rfl (lv_at hl 0 rfl) ?_
          refine lv_aload_n hx hb dX7_dueAnswer_51 rfl (lv_at hl 0 rfl) ?_
          obtain ⟨v8, h7, hf⟩ := hs_bi hf
          refine x_getI hx hb hts inX7_dueAnswer_X7 hown hK hB (by decide) rfl (k := 8) (by decide) rfl h7 (hts _ lkX7_dueAnswer_0) (fun _ h9 => h9) dX7_dueAnswer_52 ?_
          refine lv_iconst (v := 1) hx hb dX7_dueAnswer_55 (by decide) ?_
          refine lv_isub hx hb dX7_dueAnswer_56 ?_
          refine lv_aload_n hx hb dX7_dueAnswer_57 rfl (lv_at hl 2 rfl) ?_
          obtain ⟨_, h11, hf⟩ := hs_bi hf
          obtain ⟨v12, σ10, h9, hf⟩ := hs_b2i hf
          refine hs_call0 (va_runV (As := [.int (v8 - 1), .ref (ad a2)]) (rest := []) ⟨hx, hb, hml, hown, hts⟩ (ctX7_mix l fu σ o (v8 - 1) a2 X ad H.size _ _ h9) (cwV 2 hts gX7_dueAnswer_X7_mix rfl rfl rfl (by decide +kernel) ⟨Nat.le_of_ble_eq_true rfl, Nat.le_of_ble_eq_true rfl⟩) (hs_preV (hs_recv hK hB (hs_ck_i h11) (by decide) rfl) hV hB hS hA0 hA hem) rfl rfl hl.1 rfl (lv_room (Nat.le_of_ble_eq_true rfl)) dX7_dueAnswer_58 ⟨Nat.le_of_ble_eq_true rfl, Nat.le_of_ble_eq_true rfl⟩) hB hS hA rfl (fun H locs hB hS => ?_)
          obtain ⟨v15, σ14, h13, hf⟩ := hs_b2i hf
          refine hs_call0 (va_runS (As := [.int v12]) (rest := []) ⟨hx, hb, hml, hown, hts⟩ (ctX7_flagOf l fu σ10 v12 X ad H.size _ _ h13) (va_cwS 1 hts gX7_dueAnswer_X7_flagOf rfl rfl rfl (by decide +kernel) ⟨Nat.le_of_ble_eq_true rfl, Nat.le_of_ble_eq_true rfl⟩) (hs_pre hV hB hS hA0 hA hem) rfl rfl hl.1 rfl (lv_room (Nat.le_of_ble_eq_true rfl)) dX7_dueAnswer_61 ⟨Nat.le_of_ble_eq_true rfl, Nat.le_of_ble_eq_true rfl⟩) hB hS hA rfl (fun H locs hB hS => ?_)
          obtain ⟨rfl, rfl⟩ := hs_ri hf
          exact hs_iret hx hb hr hlk hB hS dX7_dueAnswer_64
        · have hf := hs_tt h6 hf
          refine lv_iconst (v := (-1)) hx hb dX7_dueAnswer_46 (by decide) ?_
          refine lv_goto (tgt := 64) hx hb dX7_dueAnswer_47 (by decide) ?_
          obtain ⟨rfl, rfl⟩ := hs_ri hf
          exact hs_iret hx hb hr hlk hB hS dX7_dueAnswer_64
      · have hf := hs_ff h3 hf
        refine lv_iload_n hx hb dX7_dueAnswer_34 rfl (lv_at hl 3 rfl) ?_
        obtain ⟨v18, σ17, h16, hf⟩ := hs_b2i hf
        refine hs_call0 (va_runS (As := [.int a3]) (rest := []) ⟨hx, hb, hml, hown, hts⟩ (ctX7_flagOf l fu σ a3 X ad H.size _ _ h16) (va_cwS 1 hts gX7_dueAnswer_X7_flagOf rfl rfl rfl (by decide +kernel) ⟨Nat.le_of_ble_eq_true rfl, Nat.le_of_ble_eq_true rfl⟩) (hs_pre hV hB hS hA0 hA hem) rfl rfl hl.1 rfl (lv_room (Nat.le_of_ble_eq_true rfl)) dX7_dueAnswer_35 ⟨Nat.le_of_ble_eq_true rfl, Nat.le_of_ble_eq_true rfl⟩) hB hS hA rfl (fun H locs hB hS => ?_)
        obtain ⟨rfl, rfl⟩ := hs_ri hf
        exact hs_iret hx hb hr hlk hB hS dX7_dueAnswer_38
    · have hf := hs_tt h2 hf
      refine lv_iconst (v := 0) hx hb dX7_dueAnswer_27 (by decide) ?_
      obtain ⟨rfl, rfl⟩ := hs_ri hf
      exact hs_iret hx hb hr hlk hB hS dX7_dueAnswer_28
  · have hf := hs_tt h1 hf
    refine lv_iload_n hx hb dX7_dueAnswer_4 rfl (lv_at hl 3 rfl) ?_
    refine lv_aload_n hx hb dX7_dueAnswer_5 rfl (lv_at hl 0 rfl) ?_
    obtain ⟨n20, h19, hf⟩ := hs_bi hf
    refine x_getN hx hb hts inX7_dueAnswer_X7 hown hK hB (by decide) rfl (k := 0) (by decide) rfl h19 (hts _ lkX7_dueAnswer_1) (fun _ h9 => h9) dX7_dueAnswer_6 ?_
    refine lv_iconst (v := 4) hx hb dX7_dueAnswer_9 (by decide) ?_
    refine lv_aload_n hx hb dX7_dueAnswer_10 rfl (lv_at hl 2 rfl) ?_
    obtain ⟨v22, h21, hf⟩ := hs_bi hf
    refine x_getIN hx hb hts inX7_dueAnswer_X5 hown hK hB (by decide) rfl (k := 1) (by decide) rfl h21 (hNw (.fieldLinkNest "ServiceGame" 232 "ServiceGame$Service" "number" "I" "ServiceGame") (by decide +kernel)) (fun _ h9 => h9) dX7_dueAnswer_11 ?_
    refine lv_iadd hx hb dX7_dueAnswer_14 ?_
    obtain ⟨v23, h24, hf⟩ := hs_bi hf
    refine x_iald hx hb hK hB h24 dX7_dueAnswer_15 ?_
    refine lv_iadd hx hb dX7_dueAnswer_16 ?_
    refine lv_sipush (v := 10000) hx hb dX7_dueAnswer_17 (by decide) ?_
    refine lv_irem hx hb dX7_dueAnswer_20 (by decide) ?_
    obtain ⟨rfl, rfl⟩ := hs_ri hf
    exact hs_iret hx hb hr hlk hB hS dX7_dueAnswer_21
end SX7_dueAnswer
set_option maxRecDepth 100000 in
theorem ctX7_dueAnswer (l : Launch) (fu : Nat) (σ : hs_T) (o : Nat) (a1 : Int32) (a2 : Nat) (a3 : Int32) (a4 : Int32) : hs_C0 hs_tvi l yX7_dueAnswer wsX7_dueAnswer rmX7_dueAnswer (fun ad => [.ref (ad o), .int a1, .ref (ad a2), .int a3, .int a4]) σ (fX7_dueAnswer fu σ o a1 a2 a3 a4) := by
  intro X ad sz r τ hf
  refine hs_enter (cc := cX7_dueAnswer) (maxL := 5) (ret := (some .int)) (by decide) rfl (Nat.le_of_ble_eq_true rfl) ?_
  intro p e s m below meth c ls C hl hem hB hS hsz
  exact wX7_dueAnswer_e fu C hem σ o a1 a2 a3 a4 hf hB hS hl
/-! ServiceGame.writeChecks(LServiceGame$Service;)Z -/
abbrev rmX7_writeChecks : Room := { frames := 5, cells := 0, slots := 0, locals := 121 }
theorem inX7_writeChecks_X7 : ∀ w ∈ wsX70, w ∈ wsX7_writeChecks := fun _ h => List.mem_cons_of_mem _ (List.mem_append_left _ (List.mem_append_left _ (List.mem_append_left _ (List.mem_append_right _ h))))
theorem lkX7_writeChecks_0 : Cond.fieldLink RX7 54 "ServiceGame" "rounds" "I" ∈ wsX7_writeChecks := by decide +kernel
theorem lkX7_writeChecks_1 : Cond.fieldLink RX7 235 "ServiceGame" "ORDERS" "[I" ∈ wsX7_writeChecks := by decide +kernel
theorem lkX7_writeChecks_2 : Cond.fieldLink RX7 40 "ServiceGame" "machine" "LServiceGame$Machine;" ∈ wsX7_writeChecks := by decide +kernel
theorem lkX7_writeChecks_3 : Cond.fieldLink RX7 7 "ServiceGame" "settings" "[I" ∈ wsX7_writeChecks := by decide +kernel
theorem lkX7_writeChecks_4 : Cond.initialized RX1 ∈ wsX7_writeChecks := by decide +kernel
theorem lkX7_writeChecks_5 : Cond.instanceMethod yX1_deliver ∈ wsX7_writeChecks := by decide +kernel
theorem lkX7_writeChecks_6 : Cond.selects RX1 yX1_deliver yX1_deliver ∈ wsX7_writeChecks := by decide +kernel
theorem lkX7_writeChecks_7 : Cond.initialized RX5 ∈ wsX7_writeChecks := by decide +kernel
theorem lkX7_writeChecks_8 : Cond.instanceMethod yX5_keepCheck ∈ wsX7_writeChecks := by decide +kernel
theorem lkX7_writeChecks_9 : Cond.selects RX5 yX5_keepCheck yX5_keepCheck ∈ wsX7_writeChecks := by decide +kernel
def fX7_writeChecks_134 (fu : Nat) (k24 : hs_T → Nat → Nat → Int32 → Int32 → Int32 → Int32 → Int32 → Option (Int32 × hs_T)) (σ : hs_T) (x0 : Nat) (x1 : Nat) (x2 : Int32) (x3 : Int32) (x5 : Int32) (x6 : Int32) (x11 : Int32) (y0 : Int32) : Option (Int32 × hs_T) :=
 if x5 = 0 then
 (k24 σ x0 x1 x2 x3 y0 0 (x6 + 1))
 else
 (if x11 = 0 then
 (k24 σ x0 x1 x2 x3 y0 0 (x6 + 1))
 else
 (k24 σ x0 x1 x2 x3 y0 1 (x6 + 1)))
def fX7_writeChecks_129 (fu : Nat) (k24 : hs_T → Nat → Nat → Int32 → Int32 → Int32 → Int32 → Int32 → Option (Int32 × hs_T)) (σ : hs_T) (x0 : Nat) (x1 : Nat) (x2 : Int32) (x3 : Int32) (x5 : Int32) (x6 : Int32) (x11 : Int32) : Option (Int32 × hs_T) :=
 fX7_writeChecks_134 fu k24 σ x0 x1 x2 x3 x5 x6 x11 1
def fX7_writeChecks_102 (fu : Nat) (k24 : hs_T → Nat → Nat → Int32 → Int32 → Int32 → Int32 → Int32 → Option (Int32 × hs_T)) (σ : hs_T) (x0 : Nat) (x1 : Nat) (x2 : Int32) (x3 : Int32) (x4 : Int32) (x5 : Int32) (x6 : Int32) (x7 : Int32) (x8 : Int32) (x9 : Int32) (y0 : Int32) : Option (Int32 × hs_T) :=
 (hs_ck σ 7 x1).bind fun _ =>
 hs_b2 (fX5_keepCheck fu σ x1 x6 x7 x8 x9 y0) fun _ σ30 =>
 if x4 = 0 then
 (if x7 = 1 then
 (fX7_writeChecks_129 fu k24 σ30 x0 x1 x2 x3 x5 x6 y0)
 else
 (fX7_writeChecks_134 fu k24 σ30 x0 x1 x2 x3 x5 x6 y0 0))
 else
 (fX7_writeChecks_129 fu k24 σ30 x0 x1 x2 x3 x5 x6 y0)
def fX7_writeChecks_97 (fu : Nat) (k24 : hs_T → Nat → Nat → Int32 → Int32 → Int32 → Int32 → Int32 → Option (Int32 × hs_T)) (σ : hs_T) (x0 : Nat) (x1 : Nat) (x2 : Int32) (x3 : Int32) (x4 : Int32) (x5 : Int32) (x6 : Int32) (x7 : Int32) (x8 : Int32) (x9 : Int32) : Option (Int32 × hs_T) :=
 fX7_writeChecks_102 fu k24 σ x0 x1 x2 x3 x4 x5 x6 x7 x8 x9 1
def fX7_writeChecks_24b (fu : Nat)  (k24 : hs_T → Nat → Nat → Int32 → Int32 → Int32 → Int32 → Int32 → Option (Int32 × hs_T)) (σ : hs_T) (x0 : Nat) (x1 : Nat) (x2 : Int32) (x3 : Int32) (x4 : Int32) (x5 : Int32) (x6 : Int32) : Option (Int32 × hs_T) :=
 if 3 ≤ x6 then
 ((hs_bz x5).bind fun _ =>
 some (x5, σ))
 else
 ((hs_tb 18 hs_t3 ((x3 * 3) + x6)).bind fun v9 =>
 hs_b2 (fX7_checkNumber fu σ v9 x2) fun v13 σ12 =>
 (hs_gN σ12 9 x0 5).bind fun n15 =>
 (hs_gN σ12 9 x0 0).bind fun n17 =>
 (hs_ld σ12 11 n17 0).bind fun v18 =>
 (hs_ck σ12 3 n15).bind fun _ =>
 hs_b2 (fX1_deliver fu σ12 n15 x1 (v9 + 1) v13 v18) fun v23 σ21 =>
 (hs_ck σ21 9 x0).bind fun _ =>
 hs_b2 (fX7_dueAnswer fu σ21 x0 v9 x1 x2 x4) fun v27 σ25 =>
 if v27 = (-1) then
 (fX7_writeChecks_97 fu k24 σ25 x0 x1 x2 x3 x4 x5 x6 v9 v13 v23)
 else
 (if v27 = v23 then
 (fX7_writeChecks_97 fu k24 σ25 x0 x1 x2 x3 x4 x5 x6 v9 v13 v23)
 else
 (fX7_writeChecks_102 fu k24 σ25 x0 x1 x2 x3 x4 x5 x6 v9 v13 v23 0)))
def fX7_writeChecks_24 (fu : Nat)  (σ : hs_T) (x0 : Nat) (x1 : Nat) (x2 : Int32) (x3 : Int32) (x4 : Int32) (x5 : Int32) (x6 : Int32) : Option (Int32 × hs_T) :=
   hs_lp (fun (k : hs_T × Nat × Nat × Int32 × Int32 × Int32 × Int32 × Int32 → Option (Int32 × hs_T)) (a : hs_T × Nat × Nat × Int32 × Int32 × Int32 × Int32 × Int32) => fX7_writeChecks_24b fu  (fun σ x0 x1 x2 x3 x4 x5 x6 => k (σ, x0, x1, x2, x3, x4, x5, x6)) a.1 a.2.1 a.2.2.1 a.2.2.2.1 a.2.2.2.2.1 a.2.2.2.2.2.1 a.2.2.2.2.2.2.1 a.2.2.2.2.2.2.2) fu (σ, x0, x1, x2, x3, x4, x5, x6)
def fX7_writeChecks (fu : Nat) (σ : hs_T) (o : Nat) (a1 : Nat) : Option (Int32 × hs_T) :=
 (hs_gI σ 9 o 8).bind fun v2 =>
 (hs_ck σ 9 o).bind fun _ =>
 hs_b2 (fX7_mix fu σ o v2 a1) fun v6 σ4 =>
 fX7_writeChecks_24 fu σ4 o a1 v6 (v6 - v6 / 6 * 6) 0 1 0
section SX7_writeChecks
variable {p : Program} {l : Launch} {e : Env} {s : State} {m : MethodId} {args : Array Value} {below : List Frame} {meth : Method} {c : Code} {X : hs_X} {ad : Nat → Nat} {A : Nat → Prop} {r : Int32} {τ : hs_T}
set_option maxRecDepth 100000 in
set_option maxHeartbeats 4000000 in
theorem wX7_writeChecks_134 (fu : Nat) (C : hs_Cx p s m args meth c X A yX7_writeChecks cX7_writeChecks 12 (some .boolean) wsX7_writeChecks) (hem : ad hs_em = X.2.2.1.2.2.2) (k24 : hs_T → Nat → Nat → Int32 → Int32 → Int32 → Int32 → Int32 → Option (Int32 × hs_T)) (hk24 : ∀ (σ : hs_T) (x0 : Nat) (x1 : Nat) (x2 : Int32) (x3 : Int32) (x4 : Int32) (x5 : Int32) (x6 : Int32) (H : Heap) (locs : List Loc) (ls : Array Slot), k24 σ x0 x1 x2 x3 x4 x5 x6 = some (r, τ) → hs_H X.1 X.2.1 ad A σ H → va_S A s.heap H locs → lv_has ls 12 [(0, .ref (ad x0)), (1, .ref (ad x1)), (2, .int x2), (3, .int x3), (4, .int x4), (5, .int x5), (6, .int x6)] → W p l e rmX7_writeChecks s m args below meth c H locs 0 0 (MQ below (hs_Q0 hs_tvi X ad A r τ) args s 0 0 A) (F0 m 24 ls [])) {H : Heap} {locs : List Loc} {ls : Array Slot} (σ : hs_T) (x0 : Nat) (x1 : Nat) (x2 : Int32) (x3 : Int32) (x5 : Int32) (x6 : Int32) (x11 : Int32) (y0 : Int32) (hf : fX7_writeChecks_134 fu k24 σ x0 x1 x2 x3 x5 x6 x11 y0 = some (r, τ)) (hB : hs_H X.1 X.2.1 ad A σ H) (hS : va_S A s.heap H locs) (hl : lv_has ls 12 [(0, .ref (ad x0)), (1, .ref (ad x1)), (2, .int x2), (3, .int x3), (5, .int x5), (6, .int x6), (11, .int x11)]) : W p l e rmX7_writeChecks s m args below meth c H locs 0 0 (MQ below (hs_Q0 hs_tvi X ad A r τ) args s 0 0 A) (F0 m 134 ls [.int y0]) := by
  obtain ⟨hx, hb, hml, hr, hts, hown, hlk, hnm, hV, hA0, hA⟩ := id C
  have hown : s.vm.findClass RX7 = some m.cls := hown
  have hK := hV.1
  have hNw := hV.2.1
  unfold fX7_writeChecks_134 at hf
  refine lv_istore (lv' := [(4, .int y0), (0, .ref (ad x0)), (1, .ref (ad x1)), (2, .int x2), (3, .int x3), (5, .int x5), (6, .int x6), (11, .int x11)]) hx hb dX7_writeChecks_134 hl (by decide) rfl (fun ls hl => ?_)
  refine lv_iload hx hb dX7_writeChecks_136 (lv_at hl 5 rfl) ?_
  refine lv_if_eq (tgt := 150) hx hb dX7_writeChecks_138 (by decide) (fun h33 => ?_) (fun h33 => ?_)
  · have hf := hs_tt h33 hf
    refine lv_iconst (v := 0) hx hb dX7_writeChecks_150 (by decide) ?_
    refine lv_istore (lv' := [(5, .int 0), (4, .int y0), (0, .ref (ad x0)), (1, .ref (ad x1)), (2, .int x2), (3, .int x3), (6, .int x6), (11, .int x11)]) hx hb dX7_writeChecks_151 hl (by decide) rfl (fun ls hl => ?_)
    refine lv_iinc (v := (x6 + 1)) (lv' := [(6, .int (x6 + 1)), (5, .int 0), (4, .int y0), (0, .ref (ad x0)), (1, .ref (ad x1)), (2, .int x2), (3, .int x3), (11, .int x11)]) hx hb dX7_writeChecks_153 hl (k := 6) rfl rfl (by decide) rfl (fun ls hl => ?_)
    refine lv_goto (tgt := 24) hx hb dX7_writeChecks_156 (by decide) ?_
    exact hk24 σ x0 x1 x2 x3 y0 0 (x6 + 1) _ _ _ hf hB hS (lv_sub hl [3, 4, 5, 6, 2, 1, 0] rfl)
  · have hf := hs_ff h33 hf
    refine lv_iload hx hb dX7_writeChecks_141 (lv_at hl 7 rfl) ?_
    refine lv_if_eq (tgt := 150) hx hb dX7_writeChecks_143 (by decide) (fun h34 => ?_) (fun h34 => ?_)
    · have hf := hs_tt h34 hf
      refine lv_iconst (v := 0) hx hb dX7_writeChecks_150 (by decide) ?_
      refine lv_istore (lv' := [(5, .int 0), (4, .int y0), (0, .ref (ad x0)), (1, .ref (ad x1)), (2, .int x2), (3, .int x3), (6, .int x6), (11, .int x11)]) hx hb dX7_writeChecks_151 hl (by decide) rfl (fun ls hl => ?_)
      refine lv_iinc (v := (x6 + 1)) (lv' := [(6, .int (x6 + 1)), (5, .int 0), (4, .int y0), (0, .ref (ad x0)), (1, .ref (ad x1)), (2, .int x2), (3, .int x3), (11, .int x11)]) hx hb dX7_writeChecks_153 hl (k := 6) rfl rfl (by decide) rfl (fun ls hl => ?_)
      refine lv_goto (tgt := 24) hx hb dX7_writeChecks_156 (by decide) ?_
      exact hk24 σ x0 x1 x2 x3 y0 0 (x6 + 1) _ _ _ hf hB hS (lv_sub hl [3, 4, 5, 6, 2, 1, 0] rfl)
    · have hf := hs_ff h34 hf
      refine lv_iconst (v := 1) hx hb dX7_writeChecks_146 (by decide) ?_
      refine lv_goto (tgt := 151) hx hb dX7_writeChecks_147 (by decide) ?_
      refine lv_istore (lv' := [(5, .int 1), (4, .int y0), (0, .ref (ad x0)), (1, .ref (ad x1)), (2, .int x2), (3, .int x3), (6, .int x6), (11, .int x11)]) hx hb dX7_writeChecks_151 hl (by decide) rfl (fun ls hl => ?_)
      refine lv_iinc (v := (x6 + 1)) (lv' := [(6, .int (x6 + 1)), (5, .int 1), (4, .int y0), (0, .ref (ad x0)), (1, .ref (ad x1)), (2, .int x2), (3, .int x3), (11, .int x11)]) hx hb dX7_writeChecks_153 hl (k := 6) rfl rfl (by decide) rfl (fun ls hl => ?_)
      refine lv_goto (tgt := 24) hx hb dX7_writeChecks_156 (by decide) ?_
      exact hk24 σ x0 x1 x2 x3 y0 1 (x6 + 1) _ _ _ hf hB hS (lv_sub hl [3, 4, 5, 6, 2, 1, 0] rfl)
set_option maxRecDepth 100000 in
set_option maxHeartbeats 4000000 in
theorem wX7_writeChecks_129 (fu : Nat) (C : hs_Cx p s m args meth c X A yX7_writeChecks cX7_writeChecks 12 (some .boolean) wsX7_writeChecks) (hem : ad hs_em = X.2.2.1.2.2.2) (k24 : hs_T → Nat → Nat → Int32 → Int32 → Int32 → Int32 → Int32 → Option (Int32 × hs_T)) (hk24 : ∀ (σ : hs_T) (x0 : Nat) (x1 : Nat) (x2 : Int32) (x3 : Int32) (x4 : Int32) (x5 : Int32) (x6 : Int32) (H : Heap) (locs : List Loc) (ls : Array Slot), k24 σ x0 x1 x2 x3 x4 x5 x6 = some (r, τ) → hs_H X.1 X.2.1 ad A σ H → va_S A s.heap H locs → lv_has ls 12 [(0, .ref (ad x0)), (1, .ref (ad x1)), (2, .int x2), (3, .int x3), (4, .int x4), (5, .int x5), (6, .int x6)] → W p l e rmX7_writeChecks s m args below meth c H locs 0 0 (MQ below (hs_Q0 hs_tvi X ad A r τ) args s 0 0 A) (F0 m 24 ls [])) {H : Heap} {locs : List Loc} {ls : Array Slot} (σ : hs_T) (x0 : Nat) (x1 : Nat) (x2 : Int32) (x3 : Int32) (x5 : Int32) (x6 : Int32) (x11 : Int32) (hf : fX7_writeChecks_129 fu k24 σ x0 x1 x2 x3 x5 x6 x11 = some (r, τ)) (hB : hs_H X.1 X.2.1 ad A σ H) (hS : va_S A s.heap H locs) (hl : lv_has ls 12 [(0, .ref (ad x0)), (1, .ref (ad x1)), (2, .int x2), (3, .int x3), (5, .int x5), (6, .int x6), (11, .int x11)]) : W p l e rmX7_writeChecks s m args below meth c H locs 0 0 (MQ below (hs_Q0 hs_tvi X ad A r τ) args s 0 0 A) (F0 m 129 ls []) := by
  obtain ⟨hx, hb, hml, hr, hts, hown, hlk, hnm, hV, hA0, hA⟩ := id C
  have hown : s.vm.findClass RX7 = some m.cls := hown
  have hK := hV.1
  have hNw := hV.2.1
  unfold fX7_writeChecks_129 at hf
  refine lv_iconst (v := 1) hx hb dX7_writeChecks_129 (by decide) ?_
  refine lv_goto (tgt := 134) hx hb dX7_writeChecks_130 (by decide) ?_
  exact wX7_writeChecks_134 fu C hem k24 hk24 σ x0 x1 x2 x3 x5 x6 x11 1 hf hB hS hl
set_option maxRecDepth 100000 in
set_option maxHeartbeats 4000000 in
theorem wX7_writeChecks_102 (fu : Nat) (C : hs_Cx p s m args meth c X A yX7_writeChecks cX7_writeChecks 12 (some .boolean) wsX7_writeChecks) (hem : ad hs_em = X.2.2.1.2.2.2) (k24 : hs_T → Nat → Nat → Int32 → Int32 → Int32 → Int32 → Int32 → Option (Int32 × hs_T)) (hk24 : ∀ (σ : hs_T) (x0 : Nat) (x1 : Nat) (x2 : Int32) (x3 : Int32) (x4 : Int32) (x5 : Int32) (x6 : Int32) (H : Heap) (locs : List Loc) (ls : Array Slot), k24 σ x0 x1 x2 x3 x4 x5 x6 = some (r, τ) → hs_H X.1 X.2.1 ad A σ H → va_S A s.heap H locs → lv_has ls 12 [(0, .ref (ad x0)), (1, .ref (ad x1)), (2, .int x2), (3, .int x3), (4, .int x4), (5, .int x5), (6, .int x6)] → W p l e rmX7_writeChecks s m args below meth c H locs 0 0 (MQ below (hs_Q0 hs_tvi X ad A r τ) args s 0 0 A) (F0 m 24 ls [])) {H : Heap} {locs : List Loc} {ls : Array Slot} (σ : hs_T) (x0 : Nat) (x1 : Nat) (x2 : Int32) (x3 : Int32) (x4 : Int32) (x5 : Int32) (x6 : Int32) (x7 : Int32) (x8 : Int32) (x9 : Int32) (y0 : Int32) (hf : fX7_writeChecks_102 fu k24 σ x0 x1 x2 x3 x4 x5 x6 x7 x8 x9 y0 = some (r, τ)) (hB : hs_H X.1 X.2.1 ad A σ H) (hS : va_S A s.heap H locs) (hl : lv_has ls 12 [(0, .ref (ad x0)), (1, .ref (ad x1)), (2, .int x2), (3, .int x3), (4, .int x4), (5, .int x5), (6, .int x6), (7, .int x7), (8, .int x8), (9, .int x9)]) : W p l e rmX7_writeChecks s m args below meth c H locs 0 0 (MQ below (hs_Q0 hs_tvi X ad A r τ) args s 0 0 A) (F0 m 102 ls [.int y0]) := by
  obtain ⟨hx, hb, hml, hr, hts, hown, hlk, hnm, hV, hA0, hA⟩ := id C
  have hown : s.vm.findClass RX7 = some m.cls := hown
  have hK := hV.1
  have hNw := hV.2.1
  unfold fX7_writeChecks_102 at hf
  refine lv_istore (lv' := [(11, .int y0), (0, .ref (ad x0)), (1, .ref (ad x1)), (2, .int x2), (3, .int x3), (4, .int x4), (5, .int x5), (6, .int x6), (7, .int x7), (8, .int x8), (9, .int x9)]) hx hb dX7_writeChecks_102 hl (by decide) rfl (fun ls hl => ?_)
  refine lv_aload_n hx hb dX7_writeChecks_104 rfl (lv_at hl 2 rfl) ?_
  refine lv_iload hx hb dX7_writeChecks_105 (lv_at hl 7 rfl) ?_
  refine lv_iload hx hb dX7_writeChecks_107 (lv_at hl 8 rfl) ?_
  refine lv_iload hx hb dX7_writeChecks_109 (lv_at hl 9 rfl) ?_
  refine lv_iload hx hb dX7_writeChecks_111 (lv_at hl 10 rfl) ?_
  refine lv_iload hx hb dX7_writeChecks_113 (lv_at hl 0 rfl) ?_
  obtain ⟨_, h31, hf⟩ := hs_bi hf
  obtain ⟨_, σ30, h29, hf⟩ := hs_b2i hf
  refine hs_call0 (va_runVN (As := [.int x6, .int x7, .int x8, .int x9, .int y0]) (rest := []) ⟨hx, hb, hml, hown, hts⟩ (ctX5_keepCheck l fu σ x1 x6 x7 x8 x9 y0 X ad H.size _ _ h29) ⟨va_cnB 5 hts gX7_writeChecks_X5_keepCheck_n245 rfl rfl rfl (hNw (.methodLinkNest "ServiceGame" 245 yX5_keepCheck "ServiceGame") (by decide +kernel)) (hts _ lkX7_writeChecks_7) (by decide +kernel) ⟨Nat.le_of_ble_eq_true rfl, Nat.le_of_ble_eq_true rfl⟩, (hts _ lkX7_writeChecks_8), (hts _ lkX7_writeChecks_9)⟩ (hs_preV (hs_recv hK hB (hs_ck_i h31) (by decide) rfl) hV hB hS hA0 hA hem) rfl rfl hl.1 rfl (lv_room (Nat.le_of_ble_eq_true rfl)) dX7_writeChecks_115 ⟨Nat.le_of_ble_eq_true rfl, Nat.le_of_ble_eq_true rfl⟩) hB hS hA rfl (fun H locs hB hS => ?_)
  refine lv_iload hx hb dX7_writeChecks_118 (lv_at hl 5 rfl) ?_
  refine lv_if_ne (tgt := 129) hx hb dX7_writeChecks_120 (by decide) (fun h32 => ?_) (fun h32 => ?_)
  · have hf := hs_ff h32 hf
    exact wX7_writeChecks_129 fu C hem k24 hk24 σ30 x0 x1 x2 x3 x5 x6 y0 hf hB hS (lv_sub hl [1, 2, 3, 4, 6, 7, 0] rfl)
  · have hf := hs_tt h32 hf
    refine lv_iload hx hb dX7_writeChecks_123 (lv_at hl 8 rfl) ?_
    refine lv_iconst (v := 1) hx hb dX7_writeChecks_125 (by decide) ?_
    refine lv_icmp_ne (tgt := 133) hx hb dX7_writeChecks_126 (by decide) (fun h35 => ?_) (fun h35 => ?_)
    · have hf := hs_ff h35 hf
      refine lv_iconst (v := 0) hx hb dX7_writeChecks_133 (by decide) ?_
      exact wX7_writeChecks_134 fu C hem k24 hk24 σ30 x0 x1 x2 x3 x5 x6 y0 0 hf hB hS (lv_sub hl [1, 2, 3, 4, 6, 7, 0] rfl)
    · have hf := hs_tt h35 hf
      exact wX7_writeChecks_129 fu C hem k24 hk24 σ30 x0 x1 x2 x3 x5 x6 y0 hf hB hS (lv_sub hl [1, 2, 3, 4, 6, 7, 0] rfl)
set_option maxRecDepth 100000 in
set_option maxHeartbeats 4000000 in
theorem wX7_writeChecks_97 (fu : Nat) (C : hs_Cx p s m args meth c X A yX7_writeChecks cX7_writeChecks 12 (some .boolean) wsX7_writeChecks) (hem : ad hs_em = X.2.2.1.2.2.2) (k24 : hs_T → Nat → Nat → Int32 → Int32 → Int32 → Int32 → Int32 → Option (Int32 × hs_T)) (hk24 : ∀ (σ : hs_T) (x0 : Nat) (x1 : Nat) (x2 : Int32) (x3 : Int32) (x4 : Int32) (x5 : Int32) (x6 : Int32) (H : Heap) (locs : List Loc) (ls : Array Slot), k24 σ x0 x1 x2 x3 x4 x5 x6 = some (r, τ) → hs_H X.1 X.2.1 ad A σ H → va_S A s.heap H locs → lv_has ls 12 [(0, .ref (ad x0)), (1, .ref (ad x1)), (2, .int x2), (3, .int x3), (4, .int x4), (5, .int x5), (6, .int x6)] → W p l e rmX7_writeChecks s m args below meth c H locs 0 0 (MQ below (hs_Q0 hs_tvi X ad A r τ) args s 0 0 A) (F0 m 24 ls [])) {H : Heap} {locs : List Loc} {ls : Array Slot} (σ : hs_T) (x0 : Nat) (x1 : Nat) (x2 : Int32) (x3 : Int32) (x4 : Int32) (x5 : Int32) (x6 : Int32) (x7 : Int32) (x8 : Int32) (x9 : Int32) (hf : fX7_writeChecks_97 fu k24 σ x0 x1 x2 x3 x4 x5 x6 x7 x8 x9 = some (r, τ)) (hB : hs_H X.1 X.2.1 ad A σ H) (hS : va_S A s.heap H locs) (hl : lv_has ls 12 [(0, .ref (ad x0)), (1, .ref (ad x1)), (2, .int x2), (3, .int x3), (4, .int x4), (5, .int x5), (6, .int x6), (7, .int x7), (8, .int x8), (9, .int x9)]) : W p l e rmX7_writeChecks s m args below meth c H locs 0 0 (MQ below (hs_Q0 hs_tvi X ad A r τ) args s 0 0 A) (F0 m 97 ls []) := by
  obtain ⟨hx, hb, hml, hr, hts, hown, hlk, hnm, hV, hA0, hA⟩ := id C
  have hown : s.vm.findClass RX7 = some m.cls := hown
  have hK := hV.1
  have hNw := hV.2.1
  unfold fX7_writeChecks_97 at hf
  refine lv_iconst (v := 1) hx hb dX7_writeChecks_97 (by decide) ?_
  refine lv_goto (tgt := 102) hx hb dX7_writeChecks_98 (by decide) ?_
  exact wX7_writeChecks_102 fu C hem k24 hk24 σ x0 x1 x2 x3 x4 x5 x6 x7 x8 x9 1 hf hB hS hl
set_option maxRecDepth 100000 in
set_option maxHeartbeats 4000000 in
theorem wX7_writeChecks_24b (fu : Nat) (C : hs_Cx p s m args meth c X A yX7_writeChecks cX7_writeChecks 12 (some .boolean) wsX7_writeChecks) (hem : ad hs_em = X.2.2.1.2.2.2)  (k24 : hs_T → Nat → Nat → Int32 → Int32 → Int32 → Int32 → Int32 → Option (Int32 × hs_T)) (hk24 : ∀ (σ : hs_T) (x0 : Nat) (x1 : Nat) (x2 : Int32) (x3 : Int32) (x4 : Int32) (x5 : Int32) (x6 : Int32) (H : Heap) (locs : List Loc) (ls : Array Slot), k24 σ x0 x1 x2 x3 x4 x5 x6 = some (r, τ) → hs_H X.1 X.2.1 ad A σ H → va_S A s.heap H locs → lv_has ls 12 [(0, .ref (ad x0)), (1, .ref (ad x1)), (2, .int x2), (3, .int x3), (4, .int x4), (5, .int x5), (6, .int x6)] → W p l e rmX7_writeChecks s m args below meth c H locs 0 0 (MQ below (hs_Q0 hs_tvi X ad A r τ) args s 0 0 A) (F0 m 24 ls [])) {H : Heap} {locs : List Loc} {ls : Array Slot} (σ : hs_T) (x0 : Nat) (x1 : Nat) (x2 : Int32) (x3 : Int32) (x4 : Int32) (x5 : Int32) (x6 : Int32) (hf : fX7_writeChecks_24b fu  k24 σ x0 x1 x2 x3 x4 x5 x6 = some (r, τ)) (hB : hs_H X.1 X.2.1 ad A σ H) (hS : va_S A s.heap H locs) (hl : lv_has ls 12 [(0, .ref (ad x0)), (1, .ref (ad x1)), (2, .int x2), (3, .int x3), (4, .int x4), (5, .int x5), (6, .int x6)]) : W p l e rmX7_writeChecks s m args below meth c H locs 0 0 (MQ below (hs_Q0 hs_tvi X ad A r τ) args s 0 0 A) (F0 m 24 ls []) := by
  obtain ⟨hx, hb, hml, hr, hts, hown, hlk, hnm, hV, hA0, hA⟩ := id C
  have hown : s.vm.findClass RX7 = some m.cls := hown
  have hK := hV.1
  have hNw := hV.2.1
  unfold fX7_writeChecks_24b at hf
  refine lv_iload hx hb dX7_writeChecks_24 (lv_at hl 6 rfl) ?_
  refine lv_iconst (v := 3) hx hb dX7_writeChecks_26 (by decide) ?_
  refine lv_icmp_ge (tgt := 159) hx hb dX7_writeChecks_27 (by decide) (fun h7 => ?_) (fun h7 => ?_)
  · have hf := hs_tt h7 hf
    refine lv_iload hx hb dX7_writeChecks_159 (lv_at hl 5 rfl) ?_
    obtain ⟨_, h8, hf⟩ := hs_bi hf
    obtain ⟨rfl, rfl⟩ := hs_ri hf
    exact hs_zret hx hb hr hlk (hs_bz_i h8) hB hS dX7_writeChecks_161
  · have hf := hs_ff h7 hf
    refine hs_tget hx hb hV.2.2.2.2.2.2.2.1 hA0 hS hown (hts _ lkX7_writeChecks_1) (fun _ h9 => h9) dX7_writeChecks_30 ?_
    refine lv_iload_n hx hb dX7_writeChecks_33 rfl (lv_at hl 3 rfl) ?_
    refine lv_iconst (v := 3) hx hb dX7_writeChecks_34 (by decide) ?_
    refine lv_imul hx hb dX7_writeChecks_35 ?_
    refine lv_iload hx hb dX7_writeChecks_36 (lv_at hl 6 rfl) ?_
    refine lv_iadd hx hb dX7_writeChecks_38 ?_
    obtain ⟨v9, h10, hf⟩ := hs_bi hf
    refine x_tld hx hb hV.2.2.2.2.2.2.2.1 hA0 hS h10 dX7_writeChecks_39 ?_
    refine lv_istore (lv' := [(7, .int v9), (0, .ref (ad x0)), (1, .ref (ad x1)), (2, .int x2), (3, .int x3), (4, .int x4), (5, .int x5), (6, .int x6)]) hx hb dX7_writeChecks_40 hl (by decide) rfl (fun ls hl => ?_)
    refine lv_iload hx hb dX7_writeChecks_42 (lv_at hl 0 rfl) ?_
    refine lv_iload_n hx hb dX7_writeChecks_44 rfl (lv_at hl 3 rfl) ?_
    obtain ⟨v13, σ12, h11, hf⟩ := hs_b2i hf
    refine hs_call0 (va_runS (As := [.int v9, .int x2]) (rest := []) ⟨hx, hb, hml, hown, hts⟩ (ctX7_checkNumber l fu σ v9 x2 X ad H.size _ _ h11) (va_cwS 2 hts gX7_writeChecks_X7_checkNumber rfl rfl rfl (by decide +kernel) ⟨Nat.le_of_ble_eq_true rfl, Nat.le_of_ble_eq_true rfl⟩) (hs_pre hV hB hS hA0 hA hem) rfl rfl hl.1 rfl (lv_room (Nat.le_of_ble_eq_true rfl)) dX7_writeChecks_45 ⟨Nat.le_of_ble_eq_true rfl, Nat.le_of_ble_eq_true rfl⟩) hB hS hA rfl (fun H locs hB hS => ?_)
    refine lv_istore (lv' := [(8, .int v13), (7, .int v9), (0, .ref (ad x0)), (1, .ref (ad x1)), (2, .int x2), (3, .int x3), (4, .int x4), (5, .int x5), (6, .int x6)]) hx hb dX7_writeChecks_48 hl (by decide) rfl (fun ls hl => ?_)
    refine lv_aload_n hx hb dX7_writeChecks_50 rfl (lv_at hl 2 rfl) ?_
    obtain ⟨n15, h14, hf⟩ := hs_bi hf
    refine x_getN hx hb hts inX7_writeChecks_X7 hown hK hB (by decide) rfl (k := 5) (by decide) rfl h14 (hts _ lkX7_writeChecks_2) (fun _ h9 => h9) dX7_writeChecks_51 ?_
    refine lv_aload_n hx hb dX7_writeChecks_54 rfl (lv_at hl 3 rfl) ?_
    refine lv_iload hx hb dX7_writeChecks_55 (lv_at hl 1 rfl) ?_
    refine lv_iconst (v := 1) hx hb dX7_writeChecks_57 (by decide) ?_
    refine lv_iadd hx hb dX7_writeChecks_58 ?_
    refine lv_iload hx hb dX7_writeChecks_59 (lv_at hl 0 rfl) ?_
    refine lv_aload_n hx hb dX7_writeChecks_61 rfl (lv_at hl 2 rfl) ?_
    obtain ⟨n17, h16, hf⟩ := hs_bi hf
    refine x_getN hx hb hts inX7_writeChecks_X7 hown hK hB (by decide) rfl (k := 0) (by decide) rfl h16 (hts _ lkX7_writeChecks_3) (fun _ h9 => h9) dX7_writeChecks_62 ?_
    refine lv_iconst (v := 0) hx hb dX7_writeChecks_65 (by decide) ?_
    obtain ⟨v18, h19, hf⟩ := hs_bi hf
    refine x_iald hx hb hK hB h19 dX7_writeChecks_66 ?_
    obtain ⟨_, h22, hf⟩ := hs_bi hf
    obtain ⟨v23, σ21, h20, hf⟩ := hs_b2i hf
    refine hs_call0 (va_runVN (As := [.ref (ad x1), .int (v9 + 1), .int v13, .int v18]) (rest := []) ⟨hx, hb, hml, hown, hts⟩ (ctX1_deliver l fu σ12 n15 x1 (v9 + 1) v13 v18 X ad H.size _ _ h20) ⟨va_cnB 4 hts gX7_writeChecks_X1_deliver_n132 rfl rfl rfl (hNw (.methodLinkNest "ServiceGame" 132 yX1_deliver "ServiceGame") (by decide +kernel)) (hts _ lkX7_writeChecks_4) (by decide +kernel) ⟨Nat.le_of_ble_eq_true rfl, Nat.le_of_ble_eq_true rfl⟩, (hts _ lkX7_writeChecks_5), (hts _ lkX7_writeChecks_6)⟩ (hs_preV (hs_recv hK hB (hs_ck_i h22) (by decide) rfl) hV hB hS hA0 hA hem) rfl rfl hl.1 rfl (lv_room (Nat.le_of_ble_eq_true rfl)) dX7_writeChecks_67 ⟨Nat.le_of_ble_eq_true rfl, Nat.le_of_ble_eq_true rfl⟩) hB hS hA rfl (fun H locs hB hS => ?_)
    refine lv_istore (lv' := [(9, .int v23), (8, .int v13), (7, .int v9), (0, .ref (ad x0)), (1, .ref (ad x1)), (2, .int x2), (3, .int x3), (4, .int x4), (5, .int x5), (6, .int x6)]) hx hb dX7_writeChecks_70 hl (by decide) rfl (fun ls hl => ?_)
    refine lv_aload_n hx hb dX7_writeChecks_72 rfl (lv_at hl 3 rfl) ?_
    refine lv_iload hx hb dX7_writeChecks_73 (lv_at hl 2 rfl) ?_
    refine lv_aload_n hx hb dX7_writeChecks_75 rfl (lv_at hl 4 rfl) ?_
    refine lv_iload_n hx hb dX7_writeChecks_76 rfl (lv_at hl 5 rfl) ?_
    refine lv_iload hx hb dX7_writeChecks_77 (lv_at hl 7 rfl) ?_
    obtain ⟨_, h26, hf⟩ := hs_bi hf
    obtain ⟨v27, σ25, h24, hf⟩ := hs_b2i hf
    refine hs_call0 (va_runV (As := [.int v9, .ref (ad x1), .int x2, .int x4]) (rest := []) ⟨hx, hb, hml, hown, hts⟩ (ctX7_dueAnswer l fu σ21 x0 v9 x1 x2 x4 X ad H.size _ _ h24) (cwV 4 hts gX7_writeChecks_X7_dueAnswer rfl rfl rfl (by decide +kernel) ⟨Nat.le_of_ble_eq_true rfl, Nat.le_of_ble_eq_true rfl⟩) (hs_preV (hs_recv hK hB (hs_ck_i h26) (by decide) rfl) hV hB hS hA0 hA hem) rfl rfl hl.1 rfl (lv_room (Nat.le_of_ble_eq_true rfl)) dX7_writeChecks_79 ⟨Nat.le_of_ble_eq_true rfl, Nat.le_of_ble_eq_true rfl⟩) hB hS hA rfl (fun H locs hB hS => ?_)
    refine lv_istore (lv' := [(10, .int v27), (9, .int v23), (8, .int v13), (7, .int v9), (0, .ref (ad x0)), (1, .ref (ad x1)), (2, .int x2), (3, .int x3), (4, .int x4), (5, .int x5), (6, .int x6)]) hx hb dX7_writeChecks_82 hl (by decide) rfl (fun ls hl => ?_)
    refine lv_iload hx hb dX7_writeChecks_84 (lv_at hl 0 rfl) ?_
    refine lv_iconst (v := (-1)) hx hb dX7_writeChecks_86 (by decide) ?_
    refine lv_icmp_eq (tgt := 97) hx hb dX7_writeChecks_87 (by decide) (fun h28 => ?_) (fun h28 => ?_)
    · have hf := hs_tt h28 hf
      exact wX7_writeChecks_97 fu C hem k24 hk24 σ25 x0 x1 x2 x3 x4 x5 x6 v9 v13 v23 hf hB hS (lv_sub hl [4, 5, 6, 7, 8, 9, 10, 3, 2, 1] rfl)
    · have hf := hs_ff h28 hf
      refine lv_iload hx hb dX7_writeChecks_90 (lv_at hl 0 rfl) ?_
      refine lv_iload hx hb dX7_writeChecks_92 (lv_at hl 1 rfl) ?_
      refine lv_icmp_ne (tgt := 101) hx hb dX7_writeChecks_94 (by decide) (fun h36 => ?_) (fun h36 => ?_)
      · have hf := hs_ff h36 hf
        refine lv_iconst (v := 0) hx hb dX7_writeChecks_101 (by decide) ?_
        exact wX7_writeChecks_102 fu C hem k24 hk24 σ25 x0 x1 x2 x3 x4 x5 x6 v9 v13 v23 0 hf hB hS (lv_sub hl [4, 5, 6, 7, 8, 9, 10, 3, 2, 1] rfl)
      · have hf := hs_tt h36 hf
        exact wX7_writeChecks_97 fu C hem k24 hk24 σ25 x0 x1 x2 x3 x4 x5 x6 v9 v13 v23 hf hB hS (lv_sub hl [4, 5, 6, 7, 8, 9, 10, 3, 2, 1] rfl)
set_option maxRecDepth 100000 in
set_option maxHeartbeats 4000000 in
theorem wX7_writeChecks_24 (fu : Nat) (C : hs_Cx p s m args meth c X A yX7_writeChecks cX7_writeChecks 12 (some .boolean) wsX7_writeChecks) (hem : ad hs_em = X.2.2.1.2.2.2)  {H : Heap} {locs : List Loc} {ls : Array Slot} (σ : hs_T) (x0 : Nat) (x1 : Nat) (x2 : Int32) (x3 : Int32) (x4 : Int32) (x5 : Int32) (x6 : Int32) (hf : fX7_writeChecks_24 fu  σ x0 x1 x2 x3 x4 x5 x6 = some (r, τ)) (hB : hs_H X.1 X.2.1 ad A σ H) (hS : va_S A s.heap H locs) (hl : lv_has ls 12 [(0, .ref (ad x0)), (1, .ref (ad x1)), (2, .int x2), (3, .int x3), (4, .int x4), (5, .int x5), (6, .int x6)]) : W p l e rmX7_writeChecks s m args below meth c H locs 0 0 (MQ below (hs_Q0 hs_tvi X ad A r τ) args s 0 0 A) (F0 m 24 ls []) := by
  unfold fX7_writeChecks_24 at hf
  exact hs_lp_i (P := fun a => ∀ (H : Heap) (locs : List Loc) (ls : Array Slot), hs_H X.1 X.2.1 ad A a.1 H → va_S A s.heap H locs → lv_has ls 12 [(0, .ref (ad a.2.1)), (1, .ref (ad a.2.2.1)), (2, .int a.2.2.2.1), (3, .int a.2.2.2.2.1), (4, .int a.2.2.2.2.2.1), (5, .int a.2.2.2.2.2.2.1), (6, .int a.2.2.2.2.2.2.2)] → W p l e rmX7_writeChecks s m args below meth c H locs 0 0 (MQ below (hs_Q0 hs_tvi X ad A r τ) args s 0 0 A) (F0 m 24 ls [])) (fun k a hk hf H locs ls hB hS hl => wX7_writeChecks_24b fu C hem  _ (fun σ x0 x1 x2 x3 x4 x5 x6 H locs ls hf hB hS hl => hk (σ, x0, x1, x2, x3, x4, x5, x6) hf H locs ls hB hS hl) a.1 a.2.1 a.2.2.1 a.2.2.2.1 a.2.2.2.2.1 a.2.2.2.2.2.1 a.2.2.2.2.2.2.1 a.2.2.2.2.2.2.2 hf hB hS hl) fu (σ, x0, x1, x2, x3, x4, x5, x6) hf H locs ls hB hS hl
set_option maxRecDepth 100000 in
set_option maxHeartbeats 4000000 in
theorem wX7_writeChecks_e (fu : Nat) (C : hs_Cx p s m args meth c X A yX7_writeChecks cX7_writeChecks 12 (some .boolean) wsX7_writeChecks) (hem : ad hs_em = X.2.2.1.2.2.2) {H : Heap} {locs : List Loc} {ls : Array Slot} (σ : hs_T) (o : Nat) (a1 : Nat) (hf : fX7_writeChecks fu σ o a1 = some (r, τ)) (hB : hs_H X.1 X.2.1 ad A σ H) (hS : va_S A s.heap H locs) (hl : lv_has ls 12 [(0, .ref (ad o)), (1, .ref (ad a1))]) : W p l e rmX7_writeChecks s m args below meth c H locs 0 0 (MQ below (hs_Q0 hs_tvi X ad A r τ) args s 0 0 A) (F0 m 0 ls []) := by
  obtain ⟨hx, hb, hml, hr, hts, hown, hlk, hnm, hV, hA0, hA⟩ := id C
  have hown : s.vm.findClass RX7 = some m.cls := hown
  have hK := hV.1
  have hNw := hV.2.1
  unfold fX7_writeChecks at hf
  refine lv_aload_n hx hb dX7_writeChecks_0 rfl (lv_at hl 0 rfl) ?_
  refine lv_aload_n hx hb dX7_writeChecks_1 rfl (lv_at hl 0 rfl) ?_
  obtain ⟨v2, h1, hf⟩ := hs_bi hf
  refine x_getI hx hb hts inX7_writeChecks_X7 hown hK hB (by decide) rfl (k := 8) (by decide) rfl h1 (hts _ lkX7_writeChecks_0) (fun _ h9 => h9) dX7_writeChecks_2 ?_
  refine lv_aload_n hx hb dX7_writeChecks_5 rfl (lv_at hl 1 rfl) ?_
  obtain ⟨_, h5, hf⟩ := hs_bi hf
  obtain ⟨v6, σ4, h3, hf⟩ := hs_b2i hf
  refine hs_call0 (va_runV (As := [.int v2, .ref (ad a1)]) (rest := []) ⟨hx, hb, hml, hown, hts⟩ (ctX7_mix l fu σ o v2 a1 X ad H.size _ _ h3) (cwV 2 hts gX7_writeChecks_X7_mix rfl rfl rfl (by decide +kernel) ⟨Nat.le_of_ble_eq_true rfl, Nat.le_of_ble_eq_true rfl⟩) (hs_preV (hs_recv hK hB (hs_ck_i h5) (by decide) rfl) hV hB hS hA0 hA hem) rfl rfl hl.1 rfl (lv_room (Nat.le_of_ble_eq_true rfl)) dX7_writeChecks_6 ⟨Nat.le_of_ble_eq_true rfl, Nat.le_of_ble_eq_true rfl⟩) hB hS hA rfl (fun H locs hB hS => ?_)
  refine lv_istore_n (lv' := [(2, .int v6), (0, .ref (ad o)), (1, .ref (ad a1))]) hx hb dX7_writeChecks_9 rfl hl (by decide) rfl (fun ls hl => ?_)
  refine lv_iload_n hx hb dX7_writeChecks_10 rfl (lv_at hl 0 rfl) ?_
  refine lv_bipush (v := 6) hx hb dX7_writeChecks_11 (by decide) ?_
  refine lv_irem hx hb dX7_writeChecks_13 (by decide) ?_
  refine lv_istore_n (lv' := [(3, .int (v6 - v6 / 6 * 6)), (2, .int v6), (0, .ref (ad o)), (1, .ref (ad a1))]) hx hb dX7_writeChecks_14 rfl hl (by decide) rfl (fun ls hl => ?_)
  refine lv_iconst (v := 0) hx hb dX7_writeChecks_15 (by decide) ?_
  refine lv_istore (lv' := [(4, .int 0), (3, .int (v6 - v6 / 6 * 6)), (2, .int v6), (0, .ref (ad o)), (1, .ref (ad a1))]) hx hb dX7_writeChecks_16 hl (by decide) rfl (fun ls hl => ?_)
  refine lv_iconst (v := 1) hx hb dX7_writeChecks_18 (by decide) ?_
  refine lv_istore (lv' := [(5, .int 1), (4, .int 0), (3, .int (v6 - v6 / 6 * 6)), (2, .int v6), (0, .ref (ad o)), (1, .ref (ad a1))]) hx hb dX7_writeChecks_19 hl (by decide) rfl (fun ls hl => ?_)
  refine lv_iconst (v := 0) hx hb dX7_writeChecks_21 (by decide) ?_
  refine lv_istore (lv' := [(6, .int 0), (5, .int 1), (4, .int 0), (3, .int (v6 - v6 / 6 * 6)), (2, .int v6), (0, .ref (ad o)), (1, .ref (ad a1))]) hx hb dX7_writeChecks_22 hl (by decide) rfl (fun ls hl => ?_)
  exact wX7_writeChecks_24 fu C hem σ4 o a1 v6 (v6 - v6 / 6 * 6) 0 1 0 hf hB hS (lv_sub hl [5, 6, 4, 3, 2, 1, 0] rfl)
end SX7_writeChecks
set_option maxRecDepth 100000 in
theorem ctX7_writeChecks (l : Launch) (fu : Nat) (σ : hs_T) (o : Nat) (a1 : Nat) : hs_C0 hs_tvi l yX7_writeChecks wsX7_writeChecks rmX7_writeChecks (fun ad => [.ref (ad o), .ref (ad a1)]) σ (fX7_writeChecks fu σ o a1) := by
  intro X ad sz r τ hf
  refine hs_enter (cc := cX7_writeChecks) (maxL := 12) (ret := (some .boolean)) (by decide) rfl (Nat.le_of_ble_eq_true rfl) ?_
  intro p e s m below meth c ls C hl hem hB hS hsz
  exact wX7_writeChecks_e fu C hem σ o a1 hf hB hS hl
/-! ServiceGame.letter(IIIII)I -/
abbrev rmX7_letter : Room := { frames := 5, cells := 0, slots := 0, locals := 121 }
theorem inX7_letter_X2 : ∀ w ∈ wsX20, w ∈ wsX7_letter := fun _ h => List.mem_cons_of_mem _ (List.mem_append_left _ (List.mem_append_left _ (List.mem_append_left _ (List.mem_append_left _ (List.mem_append_right _ h)))))
theorem inX7_letter_X7 : ∀ w ∈ wsX70, w ∈ wsX7_letter := fun _ h => List.mem_cons_of_mem _ (List.mem_append_left _ (List.mem_append_left _ (List.mem_append_left _ (List.mem_append_left _ (List.mem_append_left _ (List.mem_append_right _ h))))))
theorem lkX7_letter_0 : Cond.fieldLink RX7 47 "ServiceGame" "mail" "LServiceGame$Mail;" ∈ wsX7_letter := by decide +kernel
theorem lkX7_letter_1 : Cond.initialized RX2 ∈ wsX7_letter := by decide +kernel
theorem lkX7_letter_2 : Cond.instanceMethod yX2_keep ∈ wsX7_letter := by decide +kernel
theorem lkX7_letter_3 : Cond.selects RX2 yX2_keep yX2_keep ∈ wsX7_letter := by decide +kernel
theorem lkX7_letter_4 : Cond.fieldLink RX7 129 "ServiceGame" "lettersInAll" "I" ∈ wsX7_letter := by decide +kernel
theorem lkX7_letter_5 : Cond.fieldLink RX7 40 "ServiceGame" "machine" "LServiceGame$Machine;" ∈ wsX7_letter := by decide +kernel
theorem lkX7_letter_6 : Cond.fieldLink RX7 7 "ServiceGame" "settings" "[I" ∈ wsX7_letter := by decide +kernel
theorem lkX7_letter_7 : Cond.initialized RX1 ∈ wsX7_letter := by decide +kernel
theorem lkX7_letter_8 : Cond.instanceMethod yX1_deliver ∈ wsX7_letter := by decide +kernel
theorem lkX7_letter_9 : Cond.selects RX1 yX1_deliver yX1_deliver ∈ wsX7_letter := by decide +kernel
def fX7_letter (fu : Nat) (σ : hs_T) (o : Nat) (a1 : Int32) (a2 : Int32) (a3 : Int32) (a4 : Int32) (a5 : Int32) : Option (Int32 × hs_T) :=
 (hs_ck σ 9 o).bind fun _ =>
 hs_b2 (fX7_find fu σ o a2 a3) fun r4 σ2 => hs_mt r4
 ((hs_ck σ2 9 o).bind fun _ =>
 hs_b2 (fX7_isTeam fu σ2 o a1) fun v9 σ7 =>
 if v9 = 0 then
 (some ((-1), σ7))
 else
 (some ((-1), σ7)))
 (fun n5 =>
 (hs_ck σ2 9 o).bind fun _ =>
 hs_b2 (fX7_isTeam fu σ2 o a1) fun v14 σ12 =>
 if v14 = 0 then
 (some ((-1), σ12))
 else
 (hs_b2 (fX7_isNumber fu σ12 a4) fun v18 σ17 =>
 if v18 = 0 then
 (some ((-2), σ17))
 else
 (hs_b2 (fX7_isNumber fu σ17 a5) fun v22 σ21 =>
 if v22 = 0 then
 (some ((-2), σ21))
 else
 ((hs_gN σ21 9 o 6).bind fun n25 =>
 (hs_gI σ21 4 n25 3).bind fun v27 =>
 if v27 < 400 then
 ((hs_gN σ21 9 o 6).bind fun n30 =>
 (hs_ck σ21 4 n30).bind fun _ =>
 hs_b2 (fX2_keep fu σ21 n30 n5 a4 a5) fun _ σ32 =>
 (hs_gI σ32 9 o 9).bind fun v35 =>
 (hs_pI σ32 9 o 9 (v35 + 1)).bind fun σ37 =>
 (hs_gN σ37 9 o 5).bind fun n39 =>
 (hs_gN σ37 9 o 0).bind fun n41 =>
 (hs_ld σ37 11 n41 0).bind fun v42 =>
 (hs_ck σ37 3 n39).bind fun _ =>
 hs_b2 (fX1_deliver fu σ37 n39 n5 a4 a5 v42) fun v47 σ45 =>
 some (v47, σ45))
 else
 (some ((-4), σ21))))))
section SX7_letter
variable {p : Program} {l : Launch} {e : Env} {s : State} {m : MethodId} {args : Array Value} {below : List Frame} {meth : Method} {c : Code} {X : hs_X} {ad : Nat → Nat} {A : Nat → Prop} {r : Int32} {τ : hs_T}
set_option maxRecDepth 100000 in
set_option maxHeartbeats 4000000 in
theorem wX7_letter_e (fu : Nat) (C : hs_Cx p s m args meth c X A yX7_letter cX7_letter 7 (some .int) wsX7_letter) (hem : ad hs_em = X.2.2.1.2.2.2) {H : Heap} {locs : List Loc} {ls : Array Slot} (σ : hs_T) (o : Nat) (a1 : Int32) (a2 : Int32) (a3 : Int32) (a4 : Int32) (a5 : Int32) (hf : fX7_letter fu σ o a1 a2 a3 a4 a5 = some (r, τ)) (hB : hs_H X.1 X.2.1 ad A σ H) (hS : va_S A s.heap H locs) (hl : lv_has ls 7 [(0, .ref (ad o)), (1, .int a1), (2, .int a2), (3, .int a3), (4, .int a4), (5, .int a5)]) : W p l e rmX7_letter s m args below meth c H locs 0 0 (MQ below (hs_Q0 hs_tvi X ad A r τ) args s 0 0 A) (F0 m 0 ls []) := by
  obtain ⟨hx, hb, hml, hr, hts, hown, hlk, hnm, hV, hA0, hA⟩ := id C
  have hown : s.vm.findClass RX7 = some m.cls := hown
  have hK := hV.1
  have hNw := hV.2.1
  unfold fX7_letter at hf
  refine lv_aload_n hx hb dX7_letter_0 rfl (lv_at hl 0 rfl) ?_
  refine lv_iload_n hx hb dX7_letter_1 rfl (lv_at hl 2 rfl) ?_
  refine lv_iload_n hx hb dX7_letter_2 rfl (lv_at hl 3 rfl) ?_
  obtain ⟨_, h3, hf⟩ := hs_bi hf
  obtain ⟨r4, σ2, h1, hf⟩ := hs_b2i hf
  cases r4 with
  | none =>
    have hf := hs_mn hf
    refine hs_call0 (va_runV (As := [.int a2, .int a3]) (rest := []) ⟨hx, hb, hml, hown, hts⟩ (ctX7_find l fu σ o a2 a3 X ad H.size _ _ h1) (cwV 2 hts gX7_letter_X7_find rfl rfl rfl (by decide +kernel) ⟨Nat.le_of_ble_eq_true rfl, Nat.le_of_ble_eq_true rfl⟩) (hs_preV (hs_recv hK hB (hs_ck_i h3) (by decide) rfl) hV hB hS hA0 hA hem) rfl rfl hl.1 rfl (lv_room (Nat.le_of_ble_eq_true rfl)) dX7_letter_3 ⟨Nat.le_of_ble_eq_true rfl, Nat.le_of_ble_eq_true rfl⟩) hB hS hA rfl (fun H locs hB hS => ?_)
    refine lv_astoreN (lv' := [(6, .null), (0, .ref (ad o)), (1, .int a1), (2, .int a2), (3, .int a3), (4, .int a4), (5, .int a5)]) hx hb dX7_letter_6 hl (by decide) rfl (fun ls hl => ?_)
    refine lv_aload_n hx hb dX7_letter_8 rfl (lv_at hl 1 rfl) ?_
    refine lv_iload_n hx hb dX7_letter_9 rfl (lv_at hl 2 rfl) ?_
    obtain ⟨_, h8, hf⟩ := hs_bi hf
    obtain ⟨v9, σ7, h6, hf⟩ := hs_b2i hf
    refine hs_call0 (va_runV (As := [.int a1]) (rest := []) ⟨hx, hb, hml, hown, hts⟩ (ctX7_isTeam l fu σ2 o a1 X ad H.size _ _ h6) (cwV 1 hts gX7_letter_X7_isTeam rfl rfl rfl (by decide +kernel) ⟨Nat.le_of_ble_eq_true rfl, Nat.le_of_ble_eq_true rfl⟩) (hs_preV (hs_recv hK hB (hs_ck_i h8) (by decide) rfl) hV hB hS hA0 hA hem) rfl rfl hl.1 rfl (lv_room (Nat.le_of_ble_eq_true rfl)) dX7_letter_10 ⟨Nat.le_of_ble_eq_true rfl, Nat.le_of_ble_eq_true rfl⟩) hB hS hA rfl (fun H locs hB hS => ?_)
    refine lv_if_eq (tgt := 21) hx hb dX7_letter_13 (by decide) (fun h10 => ?_) (fun h10 => ?_)
    · have hf := hs_tt h10 hf
      refine lv_iconst (v := (-1)) hx hb dX7_letter_21 (by decide) ?_
      obtain ⟨rfl, rfl⟩ := hs_ri hf
      exact hs_iret hx hb hr hlk hB hS dX7_letter_22
    · have hf := hs_ff h10 hf
      refine lv_aloadN hx hb dX7_letter_16 (lv_at hl 0 rfl) ?_
      refine lv_ifnonnullN hx hb dX7_letter_18 ?_
      refine lv_iconst (v := (-1)) hx hb dX7_letter_21 (by decide) ?_
      obtain ⟨rfl, rfl⟩ := hs_ri hf
      exact hs_iret hx hb hr hlk hB hS dX7_letter_22
  | some n5 =>
    have hf := hs_ms hf
    refine hs_call0 (va_runV (As := [.int a2, .int a3]) (rest := []) ⟨hx, hb, hml, hown, hts⟩ (ctX7_find l fu σ o a2 a3 X ad H.size _ _ h1) (cwV 2 hts gX7_letter_X7_find rfl rfl rfl (by decide +kernel) ⟨Nat.le_of_ble_eq_true rfl, Nat.le_of_ble_eq_true rfl⟩) (hs_preV (hs_recv hK hB (hs_ck_i h3) (by decide) rfl) hV hB hS hA0 hA hem) rfl rfl hl.1 rfl (lv_room (Nat.le_of_ble_eq_true rfl)) dX7_letter_3 ⟨Nat.le_of_ble_eq_true rfl, Nat.le_of_ble_eq_true rfl⟩) hB hS hA rfl (fun H locs hB hS => ?_)
    refine lv_astore (lv' := [(6, .ref (ad n5)), (0, .ref (ad o)), (1, .int a1), (2, .int a2), (3, .int a3), (4, .int a4), (5, .int a5)]) hx hb dX7_letter_6 hl (by decide) rfl (fun ls hl => ?_)
    refine lv_aload_n hx hb dX7_letter_8 rfl (lv_at hl 1 rfl) ?_
    refine lv_iload_n hx hb dX7_letter_9 rfl (lv_at hl 2 rfl) ?_
    obtain ⟨_, h13, hf⟩ := hs_bi hf
    obtain ⟨v14, σ12, h11, hf⟩ := hs_b2i hf
    refine hs_call0 (va_runV (As := [.int a1]) (rest := []) ⟨hx, hb, hml, hown, hts⟩ (ctX7_isTeam l fu σ2 o a1 X ad H.size _ _ h11) (cwV 1 hts gX7_letter_X7_isTeam rfl rfl rfl (by decide +kernel) ⟨Nat.le_of_ble_eq_true rfl, Nat.le_of_ble_eq_true rfl⟩) (hs_preV (hs_recv hK hB (hs_ck_i h13) (by decide) rfl) hV hB hS hA0 hA hem) rfl rfl hl.1 rfl (lv_room (Nat.le_of_ble_eq_true rfl)) dX7_letter_10 ⟨Nat.le_of_ble_eq_true rfl, Nat.le_of_ble_eq_true rfl⟩) hB hS hA rfl (fun H locs hB hS => ?_)
    refine lv_if_eq (tgt := 21) hx hb dX7_letter_13 (by decide) (fun h15 => ?_) (fun h15 => ?_)
    · have hf := hs_tt h15 hf
      refine lv_iconst (v := (-1)) hx hb dX7_letter_21 (by decide) ?_
      obtain ⟨rfl, rfl⟩ := hs_ri hf
      exact hs_iret hx hb hr hlk hB hS dX7_letter_22
    · have hf := hs_ff h15 hf
      refine lv_aload hx hb dX7_letter_16 (lv_at hl 0 rfl) ?_
      refine lv_ifnonnull (tgt := 23) hx hb dX7_letter_18 (by decide) ?_
      refine lv_iload hx hb dX7_letter_23 (lv_at hl 5 rfl) ?_
      obtain ⟨v18, σ17, h16, hf⟩ := hs_b2i hf
      refine hs_call0 (va_runS (As := [.int a4]) (rest := []) ⟨hx, hb, hml, hown, hts⟩ (ctX7_isNumber l fu σ12 a4 X ad H.size _ _ h16) (va_cwS 1 hts gX7_letter_X7_isNumber rfl rfl rfl (by decide +kernel) ⟨Nat.le_of_ble_eq_true rfl, Nat.le_of_ble_eq_true rfl⟩) (hs_pre hV hB hS hA0 hA hem) rfl rfl hl.1 rfl (lv_room (Nat.le_of_ble_eq_true rfl)) dX7_letter_25 ⟨Nat.le_of_ble_eq_true rfl, Nat.le_of_ble_eq_true rfl⟩) hB hS hA rfl (fun H locs hB hS => ?_)
      refine lv_if_eq (tgt := 39) hx hb dX7_letter_28 (by decide) (fun h19 => ?_) (fun h19 => ?_)
      · have hf := hs_tt h19 hf
        refine lv_bipush (v := (-2)) hx hb dX7_letter_39 (by decide) ?_
        obtain ⟨rfl, rfl⟩ := hs_ri hf
        exact hs_iret hx hb hr hlk hB hS dX7_letter_41
      · have hf := hs_ff h19 hf
        refine lv_iload hx hb dX7_letter_31 (lv_at hl 6 rfl) ?_
        obtain ⟨v22, σ21, h20, hf⟩ := hs_b2i hf
        refine hs_call0 (va_runS (As := [.int a5]) (rest := []) ⟨hx, hb, hml, hown, hts⟩ (ctX7_isNumber l fu σ17 a5 X ad H.size _ _ h20) (va_cwS 1 hts gX7_letter_X7_isNumber rfl rfl rfl (by decide +kernel) ⟨Nat.le_of_ble_eq_true rfl, Nat.le_of_ble_eq_true rfl⟩) (hs_pre hV hB hS hA0 hA hem) rfl rfl hl.1 rfl (lv_room (Nat.le_of_ble_eq_true rfl)) dX7_letter_33 ⟨Nat.le_of_ble_eq_true rfl, Nat.le_of_ble_eq_true rfl⟩) hB hS hA rfl (fun H locs hB hS => ?_)
        refine lv_if_ne (tgt := 42) hx hb dX7_letter_36 (by decide) (fun h23 => ?_) (fun h23 => ?_)
        · have hf := hs_ff h23 hf
          refine lv_aload_n hx hb dX7_letter_42 rfl (lv_at hl 1 rfl) ?_
          obtain ⟨n25, h24, hf⟩ := hs_bi hf
          refine x_getN hx hb hts inX7_letter_X7 hown hK hB (by decide) rfl (k := 6) (by decide) rfl h24 (hts _ lkX7_letter_0) (fun _ h9 => h9) dX7_letter_43 ?_
          obtain ⟨v27, h26, hf⟩ := hs_bi hf
          refine x_getIN hx hb hts inX7_letter_X2 hown hK hB (by decide) rfl (k := 3) (by decide) rfl h26 (hNw (.fieldLinkNest "ServiceGame" 124 "ServiceGame$Mail" "size" "I" "ServiceGame") (by decide +kernel)) (fun _ h9 => h9) dX7_letter_46 ?_
          refine lv_sipush (v := 400) hx hb dX7_letter_49 (by decide) ?_
          refine lv_icmp_lt (tgt := 58) hx hb dX7_letter_52 (by decide) (fun h28 => ?_) (fun h28 => ?_)
          · have hf := hs_tt h28 hf
            refine lv_aload_n hx hb dX7_letter_58 rfl (lv_at hl 1 rfl) ?_
            obtain ⟨n30, h29, hf⟩ := hs_bi hf
            refine x_getN hx hb hts inX7_letter_X7 hown hK hB (by decide) rfl (k := 6) (by decide) rfl h29 (hts _ lkX7_letter_0) (fun _ h9 => h9) dX7_letter_59 ?_
            refine lv_aload hx hb dX7_letter_62 (lv_at hl 0 rfl) ?_
            refine lv_iload hx hb dX7_letter_64 (lv_at hl 5 rfl) ?_
            refine lv_iload hx hb dX7_letter_66 (lv_at hl 6 rfl) ?_
            obtain ⟨_, h33, hf⟩ := hs_bi hf
            obtain ⟨_, σ32, h31, hf⟩ := hs_b2i hf
            refine hs_call0 (va_runVN (As := [.ref (ad n5), .int a4, .int a5]) (rest := []) ⟨hx, hb, hml, hown, hts⟩ (ctX2_keep l fu σ21 n30 n5 a4 a5 X ad H.size _ _ h31) ⟨va_cnB 3 hts gX7_letter_X2_keep_n125 rfl rfl rfl (hNw (.methodLinkNest "ServiceGame" 125 yX2_keep "ServiceGame") (by decide +kernel)) (hts _ lkX7_letter_1) (by decide +kernel) ⟨Nat.le_of_ble_eq_true rfl, Nat.le_of_ble_eq_true rfl⟩, (hts _ lkX7_letter_2), (hts _ lkX7_letter_3)⟩ (hs_preV (hs_recv hK hB (hs_ck_i h33) (by decide) rfl) hV hB hS hA0 hA hem) rfl rfl hl.1 rfl (lv_room (Nat.le_of_ble_eq_true rfl)) dX7_letter_68 ⟨Nat.le_of_ble_eq_true rfl, Nat.le_of_ble_eq_true rfl⟩) hB hS hA rfl (fun H locs hB hS => ?_)
            refine lv_aload_n hx hb dX7_letter_71 rfl (lv_at hl 1 rfl) ?_
            refine lv_dup hx hb dX7_letter_72 rfl ?_
            obtain ⟨v35, h34, hf⟩ := hs_bi hf
            refine x_getI hx hb hts inX7_letter_X7 hown hK hB (by decide) rfl (k := 9) (by decide) rfl h34 (hts _ lkX7_letter_4) (fun _ h9 => h9) dX7_letter_73 ?_
            refine lv_iconst (v := 1) hx hb dX7_letter_76 (by decide) ?_
            refine lv_iadd hx hb dX7_letter_77 ?_
            obtain ⟨σ37, h36, hf⟩ := hs_bi hf
            refine x_putI hx hb hts inX7_letter_X7 tyX7_ok nmX7 hown hK hB hS (by decide) rfl (k := 9) (by decide) rfl h36 (hts _ lkX7_letter_4) (fun _ h9 => h9) rfl (by decide +kernel) dX7_letter_78 (fun H locs hB hS => ?_)
            refine lv_aload_n hx hb dX7_letter_81 rfl (lv_at hl 1 rfl) ?_
            obtain ⟨n39, h38, hf⟩ := hs_bi hf
            refine x_getN hx hb hts inX7_letter_X7 hown hK hB (by decide) rfl (k := 5) (by decide) rfl h38 (hts _ lkX7_letter_5) (fun _ h9 => h9) dX7_letter_82 ?_
            refine lv_aload hx hb dX7_letter_85 (lv_at hl 0 rfl) ?_
            refine lv_iload hx hb dX7_letter_87 (lv_at hl 5 rfl) ?_
            refine lv_iload hx hb dX7_letter_89 (lv_at hl 6 rfl) ?_
            refine lv_aload_n hx hb dX7_letter_91 rfl (lv_at hl 1 rfl) ?_
            obtain ⟨n41, h40, hf⟩ := hs_bi hf
            refine x_getN hx hb hts inX7_letter_X7 hown hK hB (by decide) rfl (k := 0) (by decide) rfl h40 (hts _ lkX7_letter_6) (fun _ h9 => h9) dX7_letter_92 ?_
            refine lv_iconst (v := 0) hx hb dX7_letter_95 (by decide) ?_
            obtain ⟨v42, h43, hf⟩ := hs_bi hf
            refine x_iald hx hb hK hB h43 dX7_letter_96 ?_
            obtain ⟨_, h46, hf⟩ := hs_bi hf
            obtain ⟨v47, σ45, h44, hf⟩ := hs_b2i hf
            refine hs_call0 (va_runVN (As := [.ref (ad n5), .int a4, .int a5, .int v42]) (rest := []) ⟨hx, hb, hml, hown, hts⟩ (ctX1_deliver l fu σ37 n39 n5 a4 a5 v42 X ad H.size _ _ h44) ⟨va_cnB 4 hts gX7_letter_X1_deliver_n132 rfl rfl rfl (hNw (.methodLinkNest "ServiceGame" 132 yX1_deliver "ServiceGame") (by decide +kernel)) (hts _ lkX7_letter_7) (by decide +kernel) ⟨Nat.le_of_ble_eq_true rfl, Nat.le_of_ble_eq_true rfl⟩, (hts _ lkX7_letter_8), (hts _ lkX7_letter_9)⟩ (hs_preV (hs_recv hK hB (hs_ck_i h46) (by decide) rfl) hV hB hS hA0 hA hem) rfl rfl hl.1 rfl (lv_room (Nat.le_of_ble_eq_true rfl)) dX7_letter_97 ⟨Nat.le_of_ble_eq_true rfl, Nat.le_of_ble_eq_true rfl⟩) hB hS hA rfl (fun H locs hB hS => ?_)
            obtain ⟨rfl, rfl⟩ := hs_ri hf
            exact hs_iret hx hb hr hlk hB hS dX7_letter_100
          · have hf := hs_ff h28 hf
            refine lv_bipush (v := (-4)) hx hb dX7_letter_55 (by decide) ?_
            obtain ⟨rfl, rfl⟩ := hs_ri hf
            exact hs_iret hx hb hr hlk hB hS dX7_letter_57
        · have hf := hs_tt h23 hf
          refine lv_bipush (v := (-2)) hx hb dX7_letter_39 (by decide) ?_
          obtain ⟨rfl, rfl⟩ := hs_ri hf
          exact hs_iret hx hb hr hlk hB hS dX7_letter_41
end SX7_letter
set_option maxRecDepth 100000 in
theorem ctX7_letter (l : Launch) (fu : Nat) (σ : hs_T) (o : Nat) (a1 : Int32) (a2 : Int32) (a3 : Int32) (a4 : Int32) (a5 : Int32) : hs_C0 hs_tvi l yX7_letter wsX7_letter rmX7_letter (fun ad => [.ref (ad o), .int a1, .int a2, .int a3, .int a4, .int a5]) σ (fX7_letter fu σ o a1 a2 a3 a4 a5) := by
  intro X ad sz r τ hf
  refine hs_enter (cc := cX7_letter) (maxL := 7) (ret := (some .int)) (by decide) rfl (Nat.le_of_ble_eq_true rfl) ?_
  intro p e s m below meth c ls C hl hem hB hS hsz
  exact wX7_letter_e fu C hem σ o a1 a2 a3 a4 a5 hf hB hS hl
/-! ServiceGame.round()I -/
abbrev rmX7_round : Room := { frames := 6, cells := 0, slots := 0, locals := 152 }
theorem inX7_round_X2 : ∀ w ∈ wsX20, w ∈ wsX7_round := fun _ h => List.mem_cons_of_mem _ (List.mem_append_left _ (List.mem_append_left _ (List.mem_append_left _ (List.mem_append_right _ h))))
theorem inX7_round_X5 : ∀ w ∈ wsX50, w ∈ wsX7_round := fun _ h => List.mem_cons_of_mem _ (List.mem_append_left _ (List.mem_append_left _ (List.mem_append_left _ (List.mem_append_left _ (List.mem_append_right _ h)))))
theorem inX7_round_X7 : ∀ w ∈ wsX70, w ∈ wsX7_round := fun _ h => List.mem_cons_of_mem _ (List.mem_append_left _ (List.mem_append_left _ (List.mem_append_left _ (List.mem_append_left _ (List.mem_append_left _ (List.mem_append_right _ h))))))
theorem lkX7_round_0 : Cond.fieldLink RX7 16 "ServiceGame" "services" "Ljava/util/ArrayList;" ∈ wsX7_round := by decide +kernel
theorem lkX7_round_1 : Cond.fieldLink RX7 54 "ServiceGame" "rounds" "I" ∈ wsX7_round := by decide +kernel
theorem lkX7_round_2 : Cond.fieldLink RX7 47 "ServiceGame" "mail" "LServiceGame$Mail;" ∈ wsX7_round := by decide +kernel
theorem lkX7_round_3 : Cond.initialized RX2 ∈ wsX7_round := by decide +kernel
theorem lkX7_round_4 : Cond.instanceMethod yX2_countLikeChecks ∈ wsX7_round := by decide +kernel
theorem lkX7_round_5 : Cond.selects RX2 yX2_countLikeChecks yX2_countLikeChecks ∈ wsX7_round := by decide +kernel
theorem lkX7_round_6 : Cond.classLink RX7 62 "ServiceGame$Service" ∈ wsX7_round := by decide +kernel
theorem lkX7_round_7 : Cond.initialized RX5 ∈ wsX7_round := by decide +kernel
theorem lkX7_round_8 : Cond.instanceMethod yX5_takePatch ∈ wsX7_round := by decide +kernel
theorem lkX7_round_9 : Cond.selects RX5 yX5_takePatch yX5_takePatch ∈ wsX7_round := by decide +kernel
def fX7_round_69 (fu : Nat) (k29 : hs_T → Nat → Int32 → Int32 → Option (Int32 × hs_T)) (σ : hs_T) (x0 : Nat) (x1 : Int32) (x2 : Int32) (x3 : Nat) (y0 : Int32) : Option (Int32 × hs_T) :=
 (hs_gN σ 7 x3 3).bind fun n50 =>
 (hs_gI σ 9 x0 8).bind fun v52 =>
 (hs_gN σ 7 x3 3).bind fun n54 =>
 (hs_gI σ 9 x0 8).bind fun v56 =>
 (hs_ld σ 11 n54 v56).bind fun v57 =>
 (hs_st σ 11 n50 (v52 + 1) (v57 + y0)).bind fun σ59 =>
 (hs_pI σ59 7 x3 13 0).bind fun σ62 =>
 k29 σ62 x0 (x1 + y0) (x2 + 1)
def fX7_round_29b (fu : Nat)  (k29 : hs_T → Nat → Int32 → Int32 → Option (Int32 × hs_T)) (σ : hs_T) (x0 : Nat) (x1 : Int32) (x2 : Int32) : Option (Int32 × hs_T) :=
 (hs_gN σ 9 x0 1).bind fun n12 =>
 (hs_ck σ 1 n12).bind fun _ =>
 hs_b2 (fJx4a65c_size_8abf5 fu σ n12) fun v16 σ14 =>
 if v16 ≤ x2 then
 ((hs_gN σ14 9 x0 6).bind fun n19 =>
 (hs_gN σ14 9 x0 1).bind fun n21 =>
 (hs_ck σ14 4 n19).bind fun _ =>
 hs_b2 (fX2_countLikeChecks fu σ14 n19 n21) fun _ σ23 =>
 (hs_gN σ23 9 x0 6).bind fun n26 =>
 (hs_pI σ23 4 n26 3 0).bind fun σ28 =>
 (hs_gI σ28 9 x0 8).bind fun v30 =>
 (hs_pI σ28 9 x0 8 (v30 + 1)).bind fun σ32 =>
 some (x1, σ32))
 else
 ((hs_gN σ14 9 x0 1).bind fun n34 =>
 (hs_ck σ14 1 n34).bind fun _ =>
 hs_b2 (fJx4a65c_get_915e3 fu σ14 n34 x2) fun r38 σ36 => hs_mt r38 none (fun n39 =>
 (hs_ck σ36 7 n39).bind fun _ =>
 (hs_ck σ36 7 n39).bind fun _ =>
 hs_b2 (fX5_takePatch fu σ36 n39) fun _ σ42 =>
 (hs_ck σ42 9 x0).bind fun _ =>
 hs_b2 (fX7_writeChecks fu σ42 x0 n39) fun v47 σ45 =>
 if v47 = 0 then
 (fX7_round_69 fu k29 σ45 x0 x1 x2 n39 0)
 else
 (fX7_round_69 fu k29 σ45 x0 x1 x2 n39 1)))
def fX7_round_29 (fu : Nat)  (σ : hs_T) (x0 : Nat) (x1 : Int32) (x2 : Int32) : Option (Int32 × hs_T) :=
   hs_lp (fun (k : hs_T × Nat × Int32 × Int32 → Option (Int32 × hs_T)) (a : hs_T × Nat × Int32 × Int32) => fX7_round_29b fu  (fun σ x0 x1 x2 => k (σ, x0, x1, x2)) a.1 a.2.1 a.2.2.1 a.2.2.2) fu (σ, x0, x1, x2)
def fX7_round (fu : Nat) (σ : hs_T) (o : Nat) : Option (Int32 × hs_T) :=
 (hs_gN σ 9 o 1).bind fun n2 =>
 (hs_ck σ 1 n2).bind fun _ =>
 hs_b2 (fJx4a65c_isEmpty_aae02 fu σ n2) fun v6 σ4 =>
 if v6 = 0 then
 ((hs_gI σ4 9 o 8).bind fun v9 =>
 if v9 < 100 then
 (fX7_round_29 fu σ4 o 0 0)
 else
 (some ((-4), σ4)))
 else
 (some ((-3), σ4))
section SX7_round
variable {p : Program} {l : Launch} {e : Env} {s : State} {m : MethodId} {args : Array Value} {below : List Frame} {meth : Method} {c : Code} {X : hs_X} {ad : Nat → Nat} {A : Nat → Prop} {r : Int32} {τ : hs_T}
set_option maxRecDepth 100000 in
set_option maxHeartbeats 4000000 in
theorem wX7_round_69 (fu : Nat) (C : hs_Cx p s m args meth c X A yX7_round cX7_round 5 (some .int) wsX7_round) (hem : ad hs_em = X.2.2.1.2.2.2) (k29 : hs_T → Nat → Int32 → Int32 → Option (Int32 × hs_T)) (hk29 : ∀ (σ : hs_T) (x0 : Nat) (x1 : Int32) (x2 : Int32) (H : Heap) (locs : List Loc) (ls : Array Slot), k29 σ x0 x1 x2 = some (r, τ) → hs_H X.1 X.2.1 ad A σ H → va_S A s.heap H locs → lv_has ls 5 [(0, .ref (ad x0)), (1, .int x1), (2, .int x2)] → W p l e rmX7_round s m args below meth c H locs 0 0 (MQ below (hs_Q0 hs_tvi X ad A r τ) args s 0 0 A) (F0 m 29 ls [])) {H : Heap} {locs : List Loc} {ls : Array Slot} (σ : hs_T) (x0 : Nat) (x1 : Int32) (x2 : Int32) (x3 : Nat) (y0 : Int32) (hf : fX7_round_69 fu k29 σ x0 x1 x2 x3 y0 = some (r, τ)) (hB : hs_H X.1 X.2.1 ad A σ H) (hS : va_S A s.heap H locs) (hl : lv_has ls 5 [(0, .ref (ad x0)), (1, .int x1), (2, .int x2), (3, .ref (ad x3))]) : W p l e rmX7_round s m args below meth c H locs 0 0 (MQ below (hs_Q0 hs_tvi X ad A r τ) args s 0 0 A) (F0 m 69 ls [.int y0]) := by
  obtain ⟨hx, hb, hml, hr, hts, hown, hlk, hnm, hV, hA0, hA⟩ := id C
  have hown : s.vm.findClass RX7 = some m.cls := hown
  have hK := hV.1
  have hNw := hV.2.1
  unfold fX7_round_69 at hf
  refine lv_istore (lv' := [(4, .int y0), (0, .ref (ad x0)), (1, .int x1), (2, .int x2), (3, .ref (ad x3))]) hx hb dX7_round_69 hl (by decide) rfl (fun ls hl => ?_)
  refine lv_aload_n hx hb dX7_round_71 rfl (lv_at hl 4 rfl) ?_
  obtain ⟨n50, h49, hf⟩ := hs_bi hf
  refine x_getNN hx hb hts inX7_round_X5 hown hK hB (by decide) rfl (k := 3) (by decide) rfl h49 (hNw (.fieldLinkNest "ServiceGame" 102 "ServiceGame$Service" "upAhead" "[I" "ServiceGame") (by decide +kernel)) (fun _ h9 => h9) dX7_round_72 ?_
  refine lv_aload_n hx hb dX7_round_75 rfl (lv_at hl 1 rfl) ?_
  obtain ⟨v52, h51, hf⟩ := hs_bi hf
  refine x_getI hx hb hts inX7_round_X7 hown hK hB (by decide) rfl (k := 8) (by decide) rfl h51 (hts _ lkX7_round_1) (fun _ h9 => h9) dX7_round_76 ?_
  refine lv_iconst (v := 1) hx hb dX7_round_79 (by decide) ?_
  refine lv_iadd hx hb dX7_round_80 ?_
  refine lv_aload_n hx hb dX7_round_81 rfl (lv_at hl 4 rfl) ?_
  obtain ⟨n54, h53, hf⟩ := hs_bi hf
  refine x_getNN hx hb hts inX7_round_X5 hown hK hB (by decide) rfl (k := 3) (by decide) rfl h53 (hNw (.fieldLinkNest "ServiceGame" 102 "ServiceGame$Service" "upAhead" "[I" "ServiceGame") (by decide +kernel)) (fun _ h9 => h9) dX7_round_82 ?_
  refine lv_aload_n hx hb dX7_round_85 rfl (lv_at hl 1 rfl) ?_
  obtain ⟨v56, h55, hf⟩ := hs_bi hf
  refine x_getI hx hb hts inX7_round_X7 hown hK hB (by decide) rfl (k := 8) (by decide) rfl h55 (hts _ lkX7_round_1) (fun _ h9 => h9) dX7_round_86 ?_
  obtain ⟨v57, h58, hf⟩ := hs_bi hf
  refine x_iald hx hb hK hB h58 dX7_round_89 ?_
  refine lv_iload hx hb dX7_round_90 (lv_at hl 0 rfl) ?_
  refine lv_iadd hx hb dX7_round_92 ?_
  obtain ⟨σ59, h60, hf⟩ := hs_bi hf
  refine x_iast hx hb hK hB hS h60 dX7_round_93 (fun H locs hB hS => ?_)
  refine lv_aload_n hx hb dX7_round_94 rfl (lv_at hl 4 rfl) ?_
  refine lv_iconst (v := 0) hx hb dX7_round_95 (by decide) ?_
  obtain ⟨σ62, h61, hf⟩ := hs_bi hf
  refine x_putIN hx hb hts inX7_round_X5 tyX5_ok nmX5 hown hK hB hS (by decide) rfl (k := 13) (by decide) rfl h61 (hNw (.fieldLinkNest "ServiceGame" 153 "ServiceGame$Service" "likeChecks" "I" "ServiceGame") (by decide +kernel)) (fun _ h9 => h9) rfl (by decide +kernel) dX7_round_96 (fun H locs hB hS => ?_)
  refine lv_iload_n hx hb dX7_round_99 rfl (lv_at hl 2 rfl) ?_
  refine lv_iload hx hb dX7_round_100 (lv_at hl 0 rfl) ?_
  refine lv_iadd hx hb dX7_round_102 ?_
  refine lv_istore_n (lv' := [(1, .int (x1 + y0)), (4, .int y0), (0, .ref (ad x0)), (2, .int x2), (3, .ref (ad x3))]) hx hb dX7_round_103 rfl hl (by decide) rfl (fun ls hl => ?_)
  refine lv_iinc (v := (x2 + 1)) (lv' := [(2, .int (x2 + 1)), (1, .int (x1 + y0)), (4, .int y0), (0, .ref (ad x0)), (3, .ref (ad x3))]) hx hb dX7_round_104 hl (k := 3) rfl rfl (by decide) rfl (fun ls hl => ?_)
  refine lv_goto (tgt := 29) hx hb dX7_round_107 (by decide) ?_
  exact hk29 σ62 x0 (x1 + y0) (x2 + 1) _ _ _ hf hB hS (lv_sub hl [3, 1, 0] rfl)
set_option maxRecDepth 100000 in
set_option maxHeartbeats 4000000 in
theorem wX7_round_29b (fu : Nat) (C : hs_Cx p s m args meth c X A yX7_round cX7_round 5 (some .int) wsX7_round) (hem : ad hs_em = X.2.2.1.2.2.2)  (k29 : hs_T → Nat → Int32 → Int32 → Option (Int32 × hs_T)) (hk29 : ∀ (σ : hs_T) (x0 : Nat) (x1 : Int32) (x2 : Int32) (H : Heap) (locs : List Loc) (ls : Array Slot), k29 σ x0 x1 x2 = some (r, τ) → hs_H X.1 X.2.1 ad A σ H → va_S A s.heap H locs → lv_has ls 5 [(0, .ref (ad x0)), (1, .int x1), (2, .int x2)] → W p l e rmX7_round s m args below meth c H locs 0 0 (MQ below (hs_Q0 hs_tvi X ad A r τ) args s 0 0 A) (F0 m 29 ls [])) {H : Heap} {locs : List Loc} {ls : Array Slot} (σ : hs_T) (x0 : Nat) (x1 : Int32) (x2 : Int32) (hf : fX7_round_29b fu  k29 σ x0 x1 x2 = some (r, τ)) (hB : hs_H X.1 X.2.1 ad A σ H) (hS : va_S A s.heap H locs) (hl : lv_has ls 5 [(0, .ref (ad x0)), (1, .int x1), (2, .int x2)]) : W p l e rmX7_round s m args below meth c H locs 0 0 (MQ below (hs_Q0 hs_tvi X ad A r τ) args s 0 0 A) (F0 m 29 ls []) := by
  obtain ⟨hx, hb, hml, hr, hts, hown, hlk, hnm, hV, hA0, hA⟩ := id C
  have hown : s.vm.findClass RX7 = some m.cls := hown
  have hK := hV.1
  have hNw := hV.2.1
  unfold fX7_round_29b at hf
  refine lv_iload_n hx hb dX7_round_29 rfl (lv_at hl 2 rfl) ?_
  refine lv_aload_n hx hb dX7_round_30 rfl (lv_at hl 0 rfl) ?_
  obtain ⟨n12, h11, hf⟩ := hs_bi hf
  refine x_getN hx hb hts inX7_round_X7 hown hK hB (by decide) rfl (k := 1) (by decide) rfl h11 (hts _ lkX7_round_0) (fun _ h9 => h9) dX7_round_31 ?_
  obtain ⟨_, h15, hf⟩ := hs_bi hf
  obtain ⟨v16, σ14, h13, hf⟩ := hs_b2i hf
  refine hs_call0 (va_runV (As := []) (rest := [.int x2]) ⟨hx, hb, hml, hown, hts⟩ (ctJx4a65c_size_8abf5 l fu σ n12 X ad H.size _ _ h13) (cwV 0 hts gX7_round_Jx4a65c_size_8abf5 rfl rfl rfl (by decide +kernel) ⟨Nat.le_of_ble_eq_true rfl, Nat.le_of_ble_eq_true rfl⟩) (hs_preV (hs_recv hK hB (hs_ck_i h15) (by decide) rfl) hV hB hS hA0 hA hem) rfl rfl hl.1 rfl (lv_room (Nat.le_of_ble_eq_true rfl)) dX7_round_34 ⟨Nat.le_of_ble_eq_true rfl, Nat.le_of_ble_eq_true rfl⟩) hB hS hA rfl (fun H locs hB hS => ?_)
  refine lv_icmp_ge (tgt := 110) hx hb dX7_round_37 (by decide) (fun h17 => ?_) (fun h17 => ?_)
  · have hf := hs_tt h17 hf
    refine lv_aload_n hx hb dX7_round_110 rfl (lv_at hl 0 rfl) ?_
    obtain ⟨n19, h18, hf⟩ := hs_bi hf
    refine x_getN hx hb hts inX7_round_X7 hown hK hB (by decide) rfl (k := 6) (by decide) rfl h18 (hts _ lkX7_round_2) (fun _ h9 => h9) dX7_round_111 ?_
    refine lv_aload_n hx hb dX7_round_114 rfl (lv_at hl 0 rfl) ?_
    obtain ⟨n21, h20, hf⟩ := hs_bi hf
    refine x_getN hx hb hts inX7_round_X7 hown hK hB (by decide) rfl (k := 1) (by decide) rfl h20 (hts _ lkX7_round_0) (fun _ h9 => h9) dX7_round_115 ?_
    obtain ⟨_, h24, hf⟩ := hs_bi hf
    obtain ⟨_, σ23, h22, hf⟩ := hs_b2i hf
    refine hs_call0 (va_runVN (As := [.ref (ad n21)]) (rest := []) ⟨hx, hb, hml, hown, hts⟩ (ctX2_countLikeChecks l fu σ14 n19 n21 X ad H.size _ _ h22) ⟨va_cnB 1 hts gX7_round_X2_countLikeChecks_n156 rfl rfl rfl (hNw (.methodLinkNest "ServiceGame" 156 yX2_countLikeChecks "ServiceGame") (by decide +kernel)) (hts _ lkX7_round_3) (by decide +kernel) ⟨Nat.le_of_ble_eq_true rfl, Nat.le_of_ble_eq_true rfl⟩, (hts _ lkX7_round_4), (hts _ lkX7_round_5)⟩ (hs_preV (hs_recv hK hB (hs_ck_i h24) (by decide) rfl) hV hB hS hA0 hA hem) rfl rfl hl.1 rfl (lv_room (Nat.le_of_ble_eq_true rfl)) dX7_round_118 ⟨Nat.le_of_ble_eq_true rfl, Nat.le_of_ble_eq_true rfl⟩) hB hS hA rfl (fun H locs hB hS => ?_)
    refine lv_aload_n hx hb dX7_round_121 rfl (lv_at hl 0 rfl) ?_
    obtain ⟨n26, h25, hf⟩ := hs_bi hf
    refine x_getN hx hb hts inX7_round_X7 hown hK hB (by decide) rfl (k := 6) (by decide) rfl h25 (hts _ lkX7_round_2) (fun _ h9 => h9) dX7_round_122 ?_
    refine lv_iconst (v := 0) hx hb dX7_round_125 (by decide) ?_
    obtain ⟨σ28, h27, hf⟩ := hs_bi hf
    refine x_putIN hx hb hts inX7_round_X2 tyX2_ok nmX2 hown hK hB hS (by decide) rfl (k := 3) (by decide) rfl h27 (hNw (.fieldLinkNest "ServiceGame" 124 "ServiceGame$Mail" "size" "I" "ServiceGame") (by decide +kernel)) (fun _ h9 => h9) rfl (by decide +kernel) dX7_round_126 (fun H locs hB hS => ?_)
    refine lv_aload_n hx hb dX7_round_129 rfl (lv_at hl 0 rfl) ?_
    refine lv_dup hx hb dX7_round_130 rfl ?_
    obtain ⟨v30, h29, hf⟩ := hs_bi hf
    refine x_getI hx hb hts inX7_round_X7 hown hK hB (by decide) rfl (k := 8) (by decide) rfl h29 (hts _ lkX7_round_1) (fun _ h9 => h9) dX7_round_131 ?_
    refine lv_iconst (v := 1) hx hb dX7_round_134 (by decide) ?_
    refine lv_iadd hx hb dX7_round_135 ?_
    obtain ⟨σ32, h31, hf⟩ := hs_bi hf
    refine x_putI hx hb hts inX7_round_X7 tyX7_ok nmX7 hown hK hB hS (by decide) rfl (k := 8) (by decide) rfl h31 (hts _ lkX7_round_1) (fun _ h9 => h9) rfl (by decide +kernel) dX7_round_136 (fun H locs hB hS => ?_)
    refine lv_iload_n hx hb dX7_round_139 rfl (lv_at hl 1 rfl) ?_
    obtain ⟨rfl, rfl⟩ := hs_ri hf
    exact hs_iret hx hb hr hlk hB hS dX7_round_140
  · have hf := hs_ff h17 hf
    refine lv_aload_n hx hb dX7_round_40 rfl (lv_at hl 0 rfl) ?_
    obtain ⟨n34, h33, hf⟩ := hs_bi hf
    refine x_getN hx hb hts inX7_round_X7 hown hK hB (by decide) rfl (k := 1) (by decide) rfl h33 (hts _ lkX7_round_0) (fun _ h9 => h9) dX7_round_41 ?_
    refine lv_iload_n hx hb dX7_round_44 rfl (lv_at hl 2 rfl) ?_
    obtain ⟨_, h37, hf⟩ := hs_bi hf
    obtain ⟨r38, σ36, h35, hf⟩ := hs_b2i hf
    obtain ⟨n39, hf, rfl⟩ := hs_mx hf
    refine hs_call0 (va_runV (As := [.int x2]) (rest := []) ⟨hx, hb, hml, hown, hts⟩ (ctJx4a65c_get_915e3 l fu σ14 n34 x2 X ad H.size _ _ h35) (cwV 1 hts gX7_round_Jx4a65c_get_915e3 rfl rfl rfl (by decide +kernel) ⟨Nat.le_of_ble_eq_true rfl, Nat.le_of_ble_eq_true rfl⟩) (hs_preV (hs_recv hK hB (hs_ck_i h37) (by decide) rfl) hV hB hS hA0 hA hem) rfl rfl hl.1 rfl (lv_room (Nat.le_of_ble_eq_true rfl)) dX7_round_45 ⟨Nat.le_of_ble_eq_true rfl, Nat.le_of_ble_eq_true rfl⟩) hB hS hA rfl (fun H locs hB hS => ?_)
    obtain ⟨_, h40, hf⟩ := hs_bi hf
    refine x_cast hx hb hown (hts _ lkX7_round_6) hK hB (hs_ck_i h40) (by decide) rfl dX7_round_48 ?_
    refine lv_astore_n (lv' := [(3, .ref (ad n39)), (0, .ref (ad x0)), (1, .int x1), (2, .int x2)]) hx hb dX7_round_51 rfl hl (by decide) rfl (fun ls hl => ?_)
    refine lv_aload_n hx hb dX7_round_52 rfl (lv_at hl 0 rfl) ?_
    obtain ⟨_, h43, hf⟩ := hs_bi hf
    obtain ⟨_, σ42, h41, hf⟩ := hs_b2i hf
    refine hs_call0 (va_runVN (As := []) (rest := []) ⟨hx, hb, hml, hown, hts⟩ (ctX5_takePatch l fu σ36 n39 X ad H.size _ _ h41) ⟨va_cnB 0 hts gX7_round_X5_takePatch_n146 rfl rfl rfl (hNw (.methodLinkNest "ServiceGame" 146 yX5_takePatch "ServiceGame") (by decide +kernel)) (hts _ lkX7_round_7) (by decide +kernel) ⟨Nat.le_of_ble_eq_true rfl, Nat.le_of_ble_eq_true rfl⟩, (hts _ lkX7_round_8), (hts _ lkX7_round_9)⟩ (hs_preV (hs_recv hK hB (hs_ck_i h43) (by decide) rfl) hV hB hS hA0 hA hem) rfl rfl hl.1 rfl (lv_room (Nat.le_of_ble_eq_true rfl)) dX7_round_53 ⟨Nat.le_of_ble_eq_true rfl, Nat.le_of_ble_eq_true rfl⟩) hB hS hA rfl (fun H locs hB hS => ?_)
    refine lv_aload_n hx hb dX7_round_56 rfl (lv_at hl 1 rfl) ?_
    refine lv_aload_n hx hb dX7_round_57 rfl (lv_at hl 0 rfl) ?_
    obtain ⟨_, h46, hf⟩ := hs_bi hf
    obtain ⟨v47, σ45, h44, hf⟩ := hs_b2i hf
    refine hs_call0 (va_runV (As := [.ref (ad n39)]) (rest := []) ⟨hx, hb, hml, hown, hts⟩ (ctX7_writeChecks l fu σ42 x0 n39 X ad H.size _ _ h44) (cwV 1 hts gX7_round_X7_writeChecks rfl rfl rfl (by decide +kernel) ⟨Nat.le_of_ble_eq_true rfl, Nat.le_of_ble_eq_true rfl⟩) (hs_preV (hs_recv hK hB (hs_ck_i h46) (by decide) rfl) hV hB hS hA0 hA hem) rfl rfl hl.1 rfl (lv_room (Nat.le_of_ble_eq_true rfl)) dX7_round_58 ⟨Nat.le_of_ble_eq_true rfl, Nat.le_of_ble_eq_true rfl⟩) hB hS hA rfl (fun H locs hB hS => ?_)
    refine lv_if_eq (tgt := 68) hx hb dX7_round_61 (by decide) (fun h48 => ?_) (fun h48 => ?_)
    · have hf := hs_tt h48 hf
      refine lv_iconst (v := 0) hx hb dX7_round_68 (by decide) ?_
      exact wX7_round_69 fu C hem k29 hk29 σ45 x0 x1 x2 n39 0 hf hB hS (lv_sub hl [1, 2, 3, 0] rfl)
    · have hf := hs_ff h48 hf
      refine lv_iconst (v := 1) hx hb dX7_round_64 (by decide) ?_
      refine lv_goto (tgt := 69) hx hb dX7_round_65 (by decide) ?_
      exact wX7_round_69 fu C hem k29 hk29 σ45 x0 x1 x2 n39 1 hf hB hS (lv_sub hl [1, 2, 3, 0] rfl)
set_option maxRecDepth 100000 in
set_option maxHeartbeats 4000000 in
theorem wX7_round_29 (fu : Nat) (C : hs_Cx p s m args meth c X A yX7_round cX7_round 5 (some .int) wsX7_round) (hem : ad hs_em = X.2.2.1.2.2.2)  {H : Heap} {locs : List Loc} {ls : Array Slot} (σ : hs_T) (x0 : Nat) (x1 : Int32) (x2 : Int32) (hf : fX7_round_29 fu  σ x0 x1 x2 = some (r, τ)) (hB : hs_H X.1 X.2.1 ad A σ H) (hS : va_S A s.heap H locs) (hl : lv_has ls 5 [(0, .ref (ad x0)), (1, .int x1), (2, .int x2)]) : W p l e rmX7_round s m args below meth c H locs 0 0 (MQ below (hs_Q0 hs_tvi X ad A r τ) args s 0 0 A) (F0 m 29 ls []) := by
  unfold fX7_round_29 at hf
  exact hs_lp_i (P := fun a => ∀ (H : Heap) (locs : List Loc) (ls : Array Slot), hs_H X.1 X.2.1 ad A a.1 H → va_S A s.heap H locs → lv_has ls 5 [(0, .ref (ad a.2.1)), (1, .int a.2.2.1), (2, .int a.2.2.2)] → W p l e rmX7_round s m args below meth c H locs 0 0 (MQ below (hs_Q0 hs_tvi X ad A r τ) args s 0 0 A) (F0 m 29 ls [])) (fun k a hk hf H locs ls hB hS hl => wX7_round_29b fu C hem  _ (fun σ x0 x1 x2 H locs ls hf hB hS hl => hk (σ, x0, x1, x2) hf H locs ls hB hS hl) a.1 a.2.1 a.2.2.1 a.2.2.2 hf hB hS hl) fu (σ, x0, x1, x2) hf H locs ls hB hS hl
set_option maxRecDepth 100000 in
set_option maxHeartbeats 4000000 in
theorem wX7_round_e (fu : Nat) (C : hs_Cx p s m args meth c X A yX7_round cX7_round 5 (some .int) wsX7_round) (hem : ad hs_em = X.2.2.1.2.2.2) {H : Heap} {locs : List Loc} {ls : Array Slot} (σ : hs_T) (o : Nat) (hf : fX7_round fu σ o = some (r, τ)) (hB : hs_H X.1 X.2.1 ad A σ H) (hS : va_S A s.heap H locs) (hl : lv_has ls 5 [(0, .ref (ad o))]) : W p l e rmX7_round s m args below meth c H locs 0 0 (MQ below (hs_Q0 hs_tvi X ad A r τ) args s 0 0 A) (F0 m 0 ls []) := by
  obtain ⟨hx, hb, hml, hr, hts, hown, hlk, hnm, hV, hA0, hA⟩ := id C
  have hown : s.vm.findClass RX7 = some m.cls := hown
  have hK := hV.1
  have hNw := hV.2.1
  unfold fX7_round at hf
  refine lv_aload_n hx hb dX7_round_0 rfl (lv_at hl 0 rfl) ?_
  obtain ⟨n2, h1, hf⟩ := hs_bi hf
  refine x_getN hx hb hts inX7_round_X7 hown hK hB (by decide) rfl (k := 1) (by decide) rfl h1 (hts _ lkX7_round_0) (fun _ h9 => h9) dX7_round_1 ?_
  obtain ⟨_, h5, hf⟩ := hs_bi hf
  obtain ⟨v6, σ4, h3, hf⟩ := hs_b2i hf
  refine hs_call0 (va_runV (As := []) (rest := []) ⟨hx, hb, hml, hown, hts⟩ (ctJx4a65c_isEmpty_aae02 l fu σ n2 X ad H.size _ _ h3) (cwV 0 hts gX7_round_Jx4a65c_isEmpty_aae02 rfl rfl rfl (by decide +kernel) ⟨Nat.le_of_ble_eq_true rfl, Nat.le_of_ble_eq_true rfl⟩) (hs_preV (hs_recv hK hB (hs_ck_i h5) (by decide) rfl) hV hB hS hA0 hA hem) rfl rfl hl.1 rfl (lv_room (Nat.le_of_ble_eq_true rfl)) dX7_round_4 ⟨Nat.le_of_ble_eq_true rfl, Nat.le_of_ble_eq_true rfl⟩) hB hS hA rfl (fun H locs hB hS => ?_)
  refine lv_if_eq (tgt := 13) hx hb dX7_round_7 (by decide) (fun h7 => ?_) (fun h7 => ?_)
  · have hf := hs_tt h7 hf
    refine lv_aload_n hx hb dX7_round_13 rfl (lv_at hl 0 rfl) ?_
    obtain ⟨v9, h8, hf⟩ := hs_bi hf
    refine x_getI hx hb hts inX7_round_X7 hown hK hB (by decide) rfl (k := 8) (by decide) rfl h8 (hts _ lkX7_round_1) (fun _ h9 => h9) dX7_round_14 ?_
    refine lv_bipush (v := 100) hx hb dX7_round_17 (by decide) ?_
    refine lv_icmp_lt (tgt := 25) hx hb dX7_round_19 (by decide) (fun h10 => ?_) (fun h10 => ?_)
    · have hf := hs_tt h10 hf
      refine lv_iconst (v := 0) hx hb dX7_round_25 (by decide) ?_
      refine lv_istore_n (lv' := [(1, .int 0), (0, .ref (ad o))]) hx hb dX7_round_26 rfl hl (by decide) rfl (fun ls hl => ?_)
      refine lv_iconst (v := 0) hx hb dX7_round_27 (by decide) ?_
      refine lv_istore_n (lv' := [(2, .int 0), (1, .int 0), (0, .ref (ad o))]) hx hb dX7_round_28 rfl hl (by decide) rfl (fun ls hl => ?_)
      exact wX7_round_29 fu C hem σ4 o 0 0 hf hB hS (lv_sub hl [2, 1, 0] rfl)
    · have hf := hs_ff h10 hf
      refine lv_bipush (v := (-4)) hx hb dX7_round_22 (by decide) ?_
      obtain ⟨rfl, rfl⟩ := hs_ri hf
      exact hs_iret hx hb hr hlk hB hS dX7_round_24
  · have hf := hs_ff h7 hf
    refine lv_bipush (v := (-3)) hx hb dX7_round_10 (by decide) ?_
    obtain ⟨rfl, rfl⟩ := hs_ri hf
    exact hs_iret hx hb hr hlk hB hS dX7_round_12
end SX7_round
set_option maxRecDepth 100000 in
theorem ctX7_round (l : Launch) (fu : Nat) (σ : hs_T) (o : Nat) : hs_C0 hs_tvi l yX7_round wsX7_round rmX7_round (fun ad => [.ref (ad o)]) σ (fX7_round fu σ o) := by
  intro X ad sz r τ hf
  refine hs_enter (cc := cX7_round) (maxL := 5) (ret := (some .int)) (by decide) rfl (Nat.le_of_ble_eq_true rfl) ?_
  intro p e s m below meth c ls C hl hem hB hS hsz
  exact wX7_round_e fu C hem σ o hf hB hS hl
/-! ServiceGame.up(III)I -/
abbrev rmX7_up : Room := { frames := 4, cells := 0, slots := 0, locals := 86 }
theorem inX7_up_X5 : ∀ w ∈ wsX50, w ∈ wsX7_up := fun _ h => List.mem_cons_of_mem _ (List.mem_append_left _ (List.mem_append_left _ (List.mem_append_right _ h)))
def fX7_up (fu : Nat) (σ : hs_T) (o : Nat) (a1 : Int32) (a2 : Int32) (a3 : Int32) : Option (Int32 × hs_T) :=
 (hs_ck σ 9 o).bind fun _ =>
 hs_b2 (fX7_find fu σ o a1 a2) fun r4 σ2 => hs_mt r4
 (some ((-1), σ2))
 (fun n5 =>
 (hs_ck σ2 9 o).bind fun _ =>
 hs_b2 (fX7_wasRound fu σ2 o a3) fun v9 σ7 =>
 if v9 = 0 then
 (some ((-1), σ7))
 else
 ((hs_gN σ7 7 n5 3).bind fun n12 =>
 (hs_ld σ7 11 n12 (a3 + 1)).bind fun v13 =>
 (hs_gN σ7 7 n5 3).bind fun n16 =>
 (hs_ld σ7 11 n16 a3).bind fun v17 =>
 some ((v13 - v17), σ7)))
section SX7_up
variable {p : Program} {l : Launch} {e : Env} {s : State} {m : MethodId} {args : Array Value} {below : List Frame} {meth : Method} {c : Code} {X : hs_X} {ad : Nat → Nat} {A : Nat → Prop} {r : Int32} {τ : hs_T}
set_option maxRecDepth 100000 in
set_option maxHeartbeats 4000000 in
theorem wX7_up_e (fu : Nat) (C : hs_Cx p s m args meth c X A yX7_up cX7_up 5 (some .int) wsX7_up) (hem : ad hs_em = X.2.2.1.2.2.2) {H : Heap} {locs : List Loc} {ls : Array Slot} (σ : hs_T) (o : Nat) (a1 : Int32) (a2 : Int32) (a3 : Int32) (hf : fX7_up fu σ o a1 a2 a3 = some (r, τ)) (hB : hs_H X.1 X.2.1 ad A σ H) (hS : va_S A s.heap H locs) (hl : lv_has ls 5 [(0, .ref (ad o)), (1, .int a1), (2, .int a2), (3, .int a3)]) : W p l e rmX7_up s m args below meth c H locs 0 0 (MQ below (hs_Q0 hs_tvi X ad A r τ) args s 0 0 A) (F0 m 0 ls []) := by
  obtain ⟨hx, hb, hml, hr, hts, hown, hlk, hnm, hV, hA0, hA⟩ := id C
  have hown : s.vm.findClass RX7 = some m.cls := hown
  have hK := hV.1
  have hNw := hV.2.1
  unfold fX7_up at hf
  refine lv_aload_n hx hb dX7_up_0 rfl (lv_at hl 0 rfl) ?_
  refine lv_iload_n hx hb dX7_up_1 rfl (lv_at hl 1 rfl) ?_
  refine lv_iload_n hx hb dX7_up_2 rfl (lv_at hl 2 rfl) ?_
  obtain ⟨_, h3, hf⟩ := hs_bi hf
  obtain ⟨r4, σ2, h1, hf⟩ := hs_b2i hf
  cases r4 with
  | none =>
    have hf := hs_mn hf
    refine hs_call0 (va_runV (As := [.int a1, .int a2]) (rest := []) ⟨hx, hb, hml, hown, hts⟩ (ctX7_find l fu σ o a1 a2 X ad H.size _ _ h1) (cwV 2 hts gX7_up_X7_find rfl rfl rfl (by decide +kernel) ⟨Nat.le_of_ble_eq_true rfl, Nat.le_of_ble_eq_true rfl⟩) (hs_preV (hs_recv hK hB (hs_ck_i h3) (by decide) rfl) hV hB hS hA0 hA hem) rfl rfl hl.1 rfl (lv_room (Nat.le_of_ble_eq_true rfl)) dX7_up_3 ⟨Nat.le_of_ble_eq_true rfl, Nat.le_of_ble_eq_true rfl⟩) hB hS hA rfl (fun H locs hB hS => ?_)
    refine lv_astoreN (lv' := [(4, .null), (0, .ref (ad o)), (1, .int a1), (2, .int a2), (3, .int a3)]) hx hb dX7_up_6 hl (by decide) rfl (fun ls hl => ?_)
    refine lv_aloadN hx hb dX7_up_8 (lv_at hl 0 rfl) ?_
    refine lv_ifnullN (tgt := 21) hx hb dX7_up_10 (by decide) ?_
    refine lv_iconst (v := (-1)) hx hb dX7_up_21 (by decide) ?_
    obtain ⟨rfl, rfl⟩ := hs_ri hf
    exact hs_iret hx hb hr hlk hB hS dX7_up_22
  | some n5 =>
    have hf := hs_ms hf
    refine hs_call0 (va_runV (As := [.int a1, .int a2]) (rest := []) ⟨hx, hb, hml, hown, hts⟩ (ctX7_find l fu σ o a1 a2 X ad H.size _ _ h1) (cwV 2 hts gX7_up_X7_find rfl rfl rfl (by decide +kernel) ⟨Nat.le_of_ble_eq_true rfl, Nat.le_of_ble_eq_true rfl⟩) (hs_preV (hs_recv hK hB (hs_ck_i h3) (by decide) rfl) hV hB hS hA0 hA hem) rfl rfl hl.1 rfl (lv_room (Nat.le_of_ble_eq_true rfl)) dX7_up_3 ⟨Nat.le_of_ble_eq_true rfl, Nat.le_of_ble_eq_true rfl⟩) hB hS hA rfl (fun H locs hB hS => ?_)
    refine lv_astore (lv' := [(4, .ref (ad n5)), (0, .ref (ad o)), (1, .int a1), (2, .int a2), (3, .int a3)]) hx hb dX7_up_6 hl (by decide) rfl (fun ls hl => ?_)
    refine lv_aload hx hb dX7_up_8 (lv_at hl 0 rfl) ?_
    refine lv_ifnull hx hb dX7_up_10 ?_
    refine lv_aload_n hx hb dX7_up_13 rfl (lv_at hl 1 rfl) ?_
    refine lv_iload_n hx hb dX7_up_14 rfl (lv_at hl 4 rfl) ?_
    obtain ⟨_, h8, hf⟩ := hs_bi hf
    obtain ⟨v9, σ7, h6, hf⟩ := hs_b2i hf
    refine hs_call0 (va_runV (As := [.int a3]) (rest := []) ⟨hx, hb, hml, hown, hts⟩ (ctX7_wasRound l fu σ2 o a3 X ad H.size _ _ h6) (cwV 1 hts gX7_up_X7_wasRound rfl rfl rfl (by decide +kernel) ⟨Nat.le_of_ble_eq_true rfl, Nat.le_of_ble_eq_true rfl⟩) (hs_preV (hs_recv hK hB (hs_ck_i h8) (by decide) rfl) hV hB hS hA0 hA hem) rfl rfl hl.1 rfl (lv_room (Nat.le_of_ble_eq_true rfl)) dX7_up_15 ⟨Nat.le_of_ble_eq_true rfl, Nat.le_of_ble_eq_true rfl⟩) hB hS hA rfl (fun H locs hB hS => ?_)
    refine lv_if_ne (tgt := 23) hx hb dX7_up_18 (by decide) (fun h10 => ?_) (fun h10 => ?_)
    · have hf := hs_ff h10 hf
      refine lv_aload hx hb dX7_up_23 (lv_at hl 0 rfl) ?_
      obtain ⟨n12, h11, hf⟩ := hs_bi hf
      refine x_getNN hx hb hts inX7_up_X5 hown hK hB (by decide) rfl (k := 3) (by decide) rfl h11 (hNw (.fieldLinkNest "ServiceGame" 102 "ServiceGame$Service" "upAhead" "[I" "ServiceGame") (by decide +kernel)) (fun _ h9 => h9) dX7_up_25 ?_
      refine lv_iload_n hx hb dX7_up_28 rfl (lv_at hl 4 rfl) ?_
      refine lv_iconst (v := 1) hx hb dX7_up_29 (by decide) ?_
      refine lv_iadd hx hb dX7_up_30 ?_
      obtain ⟨v13, h14, hf⟩ := hs_bi hf
      refine x_iald hx hb hK hB h14 dX7_up_31 ?_
      refine lv_aload hx hb dX7_up_32 (lv_at hl 0 rfl) ?_
      obtain ⟨n16, h15, hf⟩ := hs_bi hf
      refine x_getNN hx hb hts inX7_up_X5 hown hK hB (by decide) rfl (k := 3) (by decide) rfl h15 (hNw (.fieldLinkNest "ServiceGame" 102 "ServiceGame$Service" "upAhead" "[I" "ServiceGame") (by decide +kernel)) (fun _ h9 => h9) dX7_up_34 ?_
      refine lv_iload_n hx hb dX7_up_37 rfl (lv_at hl 4 rfl) ?_
      obtain ⟨v17, h18, hf⟩ := hs_bi hf
      refine x_iald hx hb hK hB h18 dX7_up_38 ?_
      refine lv_isub hx hb dX7_up_39 ?_
      obtain ⟨rfl, rfl⟩ := hs_ri hf
      exact hs_iret hx hb hr hlk hB hS dX7_up_40
    · have hf := hs_tt h10 hf
      refine lv_iconst (v := (-1)) hx hb dX7_up_21 (by decide) ?_
      obtain ⟨rfl, rfl⟩ := hs_ri hf
      exact hs_iret hx hb hr hlk hB hS dX7_up_22
end SX7_up
set_option maxRecDepth 100000 in
theorem ctX7_up (l : Launch) (fu : Nat) (σ : hs_T) (o : Nat) (a1 : Int32) (a2 : Int32) (a3 : Int32) : hs_C0 hs_tvi l yX7_up wsX7_up rmX7_up (fun ad => [.ref (ad o), .int a1, .int a2, .int a3]) σ (fX7_up fu σ o a1 a2 a3) := by
  intro X ad sz r τ hf
  refine hs_enter (cc := cX7_up) (maxL := 5) (ret := (some .int)) (by decide) rfl (Nat.le_of_ble_eq_true rfl) ?_
  intro p e s m below meth c ls C hl hem hB hS hsz
  exact wX7_up_e fu C hem σ o a1 a2 a3 hf hB hS hl
/-! ServiceGame.check(IIII)I -/
abbrev rmX7_check : Room := { frames := 4, cells := 0, slots := 0, locals := 86 }
theorem inX7_check_X5 : ∀ w ∈ wsX50, w ∈ wsX7_check := fun _ h => List.mem_cons_of_mem _ (List.mem_append_left _ (List.mem_append_right _ h))
theorem inX7_check_X7 : ∀ w ∈ wsX70, w ∈ wsX7_check := fun _ h => List.mem_cons_of_mem _ (List.mem_append_left _ (List.mem_append_left _ (List.mem_append_right _ h)))
theorem lkX7_check_0 : Cond.fieldLink RX7 54 "ServiceGame" "rounds" "I" ∈ wsX7_check := by decide +kernel
def fX7_check (fu : Nat) (σ : hs_T) (o : Nat) (a1 : Int32) (a2 : Int32) (a3 : Int32) (a4 : Int32) : Option (Int32 × hs_T) :=
 (hs_ck σ 9 o).bind fun _ =>
 hs_b2 (fX7_find fu σ o a1 a2) fun r4 σ2 => hs_mt r4
 (some ((-1), σ2))
 (fun n5 =>
 (hs_gI σ2 9 o 8).bind fun v7 =>
 if v7 = 0 then
 (some ((-1), σ2))
 else
 (if a3 < 0 then
 (some ((-1), σ2))
 else
 (if a3 < 3 then
 (if a4 = 0 then
 ((hs_gN σ2 7 n5 5).bind fun n13 =>
 (hs_ld σ2 11 n13 a3).bind fun v14 =>
 some (v14, σ2))
 else
 if a4 = 1 then
 ((hs_gN σ2 7 n5 6).bind fun n18 =>
 (hs_ld σ2 11 n18 a3).bind fun v19 =>
 some (v19, σ2))
 else
 if a4 = 2 then
 ((hs_gN σ2 7 n5 7).bind fun n23 =>
 (hs_ld σ2 11 n23 a3).bind fun v24 =>
 some (v24, σ2))
 else
 if a4 = 3 then
 ((hs_gN σ2 7 n5 8).bind fun n28 =>
 (hs_ld σ2 11 n28 a3).bind fun v29 =>
 some (v29, σ2))
 else
 (some ((-1), σ2)))
 else
 (some ((-1), σ2)))))
section SX7_check
variable {p : Program} {l : Launch} {e : Env} {s : State} {m : MethodId} {args : Array Value} {below : List Frame} {meth : Method} {c : Code} {X : hs_X} {ad : Nat → Nat} {A : Nat → Prop} {r : Int32} {τ : hs_T}
set_option maxRecDepth 100000 in
set_option maxHeartbeats 4000000 in
theorem wX7_check_e (fu : Nat) (C : hs_Cx p s m args meth c X A yX7_check cX7_check 6 (some .int) wsX7_check) (hem : ad hs_em = X.2.2.1.2.2.2) {H : Heap} {locs : List Loc} {ls : Array Slot} (σ : hs_T) (o : Nat) (a1 : Int32) (a2 : Int32) (a3 : Int32) (a4 : Int32) (hf : fX7_check fu σ o a1 a2 a3 a4 = some (r, τ)) (hB : hs_H X.1 X.2.1 ad A σ H) (hS : va_S A s.heap H locs) (hl : lv_has ls 6 [(0, .ref (ad o)), (1, .int a1), (2, .int a2), (3, .int a3), (4, .int a4)]) : W p l e rmX7_check s m args below meth c H locs 0 0 (MQ below (hs_Q0 hs_tvi X ad A r τ) args s 0 0 A) (F0 m 0 ls []) := by
  obtain ⟨hx, hb, hml, hr, hts, hown, hlk, hnm, hV, hA0, hA⟩ := id C
  have hown : s.vm.findClass RX7 = some m.cls := hown
  have hK := hV.1
  have hNw := hV.2.1
  unfold fX7_check at hf
  refine lv_aload_n hx hb dX7_check_0 rfl (lv_at hl 0 rfl) ?_
  refine lv_iload_n hx hb dX7_check_1 rfl (lv_at hl 1 rfl) ?_
  refine lv_iload_n hx hb dX7_check_2 rfl (lv_at hl 2 rfl) ?_
  obtain ⟨_, h3, hf⟩ := hs_bi hf
  obtain ⟨r4, σ2, h1, hf⟩ := hs_b2i hf
  cases r4 with
  | none =>
    have hf := hs_mn hf
    refine hs_call0 (va_runV (As := [.int a1, .int a2]) (rest := []) ⟨hx, hb, hml, hown, hts⟩ (ctX7_find l fu σ o a1 a2 X ad H.size _ _ h1) (cwV 2 hts gX7_check_X7_find rfl rfl rfl (by decide +kernel) ⟨Nat.le_of_ble_eq_true rfl, Nat.le_of_ble_eq_true rfl⟩) (hs_preV (hs_recv hK hB (hs_ck_i h3) (by decide) rfl) hV hB hS hA0 hA hem) rfl rfl hl.1 rfl (lv_room (Nat.le_of_ble_eq_true rfl)) dX7_check_3 ⟨Nat.le_of_ble_eq_true rfl, Nat.le_of_ble_eq_true rfl⟩) hB hS hA rfl (fun H locs hB hS => ?_)
    refine lv_astoreN (lv' := [(5, .null), (0, .ref (ad o)), (1, .int a1), (2, .int a2), (3, .int a3), (4, .int a4)]) hx hb dX7_check_6 hl (by decide) rfl (fun ls hl => ?_)
    refine lv_aloadN hx hb dX7_check_8 (lv_at hl 0 rfl) ?_
    refine lv_ifnullN (tgt := 29) hx hb dX7_check_10 (by decide) ?_
    refine lv_iconst (v := (-1)) hx hb dX7_check_29 (by decide) ?_
    obtain ⟨rfl, rfl⟩ := hs_ri hf
    exact hs_iret hx hb hr hlk hB hS dX7_check_30
  | some n5 =>
    have hf := hs_ms hf
    refine hs_call0 (va_runV (As := [.int a1, .int a2]) (rest := []) ⟨hx, hb, hml, hown, hts⟩ (ctX7_find l fu σ o a1 a2 X ad H.size _ _ h1) (cwV 2 hts gX7_check_X7_find rfl rfl rfl (by decide +kernel) ⟨Nat.le_of_ble_eq_true rfl, Nat.le_of_ble_eq_true rfl⟩) (hs_preV (hs_recv hK hB (hs_ck_i h3) (by decide) rfl) hV hB hS hA0 hA hem) rfl rfl hl.1 rfl (lv_room (Nat.le_of_ble_eq_true rfl)) dX7_check_3 ⟨Nat.le_of_ble_eq_true rfl, Nat.le_of_ble_eq_true rfl⟩) hB hS hA rfl (fun H locs hB hS => ?_)
    refine lv_astore (lv' := [(5, .ref (ad n5)), (0, .ref (ad o)), (1, .int a1), (2, .int a2), (3, .int a3), (4, .int a4)]) hx hb dX7_check_6 hl (by decide) rfl (fun ls hl => ?_)
    refine lv_aload hx hb dX7_check_8 (lv_at hl 0 rfl) ?_
    refine lv_ifnull hx hb dX7_check_10 ?_
    refine lv_aload_n hx hb dX7_check_13 rfl (lv_at hl 1 rfl) ?_
    obtain ⟨v7, h6, hf⟩ := hs_bi hf
    refine x_getI hx hb hts inX7_check_X7 hown hK hB (by decide) rfl (k := 8) (by decide) rfl h6 (hts _ lkX7_check_0) (fun _ h9 => h9) dX7_check_14 ?_
    refine lv_if_eq (tgt := 29) hx hb dX7_check_17 (by decide) (fun h8 => ?_) (fun h8 => ?_)
    · have hf := hs_tt h8 hf
      refine lv_iconst (v := (-1)) hx hb dX7_check_29 (by decide) ?_
      obtain ⟨rfl, rfl⟩ := hs_ri hf
      exact hs_iret hx hb hr hlk hB hS dX7_check_30
    · have hf := hs_ff h8 hf
      refine lv_iload_n hx hb dX7_check_20 rfl (lv_at hl 4 rfl) ?_
      refine lv_if_lt (tgt := 29) hx hb dX7_check_21 (by decide) (fun h9 => ?_) (fun h9 => ?_)
      · have hf := hs_tt h9 hf
        refine lv_iconst (v := (-1)) hx hb dX7_check_29 (by decide) ?_
        obtain ⟨rfl, rfl⟩ := hs_ri hf
        exact hs_iret hx hb hr hlk hB hS dX7_check_30
      · have hf := hs_ff h9 hf
        refine lv_iload_n hx hb dX7_check_24 rfl (lv_at hl 4 rfl) ?_
        refine lv_iconst (v := 3) hx hb dX7_check_25 (by decide) ?_
        refine lv_icmp_lt (tgt := 31) hx hb dX7_check_26 (by decide) (fun h10 => ?_) (fun h10 => ?_)
        · have hf := hs_tt h10 hf
          refine lv_iload hx hb dX7_check_31 (lv_at hl 5 rfl) ?_
          by_cases h11 : a4 = 0
          · have hf := hs_tt h11 hf
            refine lv_tableIn (tgt := 64) hx hb dX7_check_33 (by rw [h11]; decide) (by rw [h11]; decide) (by rw [h11]; exact rfl) (by decide) ?_
            refine lv_aload hx hb dX7_check_64 (lv_at hl 0 rfl) ?_
            obtain ⟨n13, h12, hf⟩ := hs_bi hf
            refine x_getNN hx hb hts inX7_check_X5 hown hK hB (by decide) rfl (k := 5) (by decide) rfl h12 (hNw (.fieldLinkNest "ServiceGame" 163 "ServiceGame$Service" "checkKinds" "[I" "ServiceGame") (by decide +kernel)) (fun _ h9 => h9) dX7_check_66 ?_
            refine lv_iload_n hx hb dX7_check_69 rfl (lv_at hl 4 rfl) ?_
            obtain ⟨v14, h15, hf⟩ := hs_bi hf
            refine x_iald hx hb hK hB h15 dX7_check_70 ?_
            obtain ⟨rfl, rfl⟩ := hs_ri hf
            exact hs_iret hx hb hr hlk hB hS dX7_check_71
          have hf := hs_ff h11 hf
          by_cases h16 : a4 = 1
          · have hf := hs_tt h16 hf
            refine lv_tableIn (tgt := 72) hx hb dX7_check_33 (by rw [h16]; decide) (by rw [h16]; decide) (by rw [h16]; exact rfl) (by decide) ?_
            refine lv_aload hx hb dX7_check_72 (lv_at hl 0 rfl) ?_
            obtain ⟨n18, h17, hf⟩ := hs_bi hf
            refine x_getNN hx hb hts inX7_check_X5 hown hK hB (by decide) rfl (k := 6) (by decide) rfl h17 (hNw (.fieldLinkNest "ServiceGame" 166 "ServiceGame$Service" "checkNumbers" "[I" "ServiceGame") (by decide +kernel)) (fun _ h9 => h9) dX7_check_74 ?_
            refine lv_iload_n hx hb dX7_check_77 rfl (lv_at hl 4 rfl) ?_
            obtain ⟨v19, h20, hf⟩ := hs_bi hf
            refine x_iald hx hb hK hB h20 dX7_check_78 ?_
            obtain ⟨rfl, rfl⟩ := hs_ri hf
            exact hs_iret hx hb hr hlk hB hS dX7_check_79
          have hf := hs_ff h16 hf
          by_cases h21 : a4 = 2
          · have hf := hs_tt h21 hf
            refine lv_tableIn (tgt := 80) hx hb dX7_check_33 (by rw [h21]; decide) (by rw [h21]; decide) (by rw [h21]; exact rfl) (by decide) ?_
            refine lv_aload hx hb dX7_check_80 (lv_at hl 0 rfl) ?_
            obtain ⟨n23, h22, hf⟩ := hs_bi hf
            refine x_getNN hx hb hts inX7_check_X5 hown hK hB (by decide) rfl (k := 7) (by decide) rfl h22 (hNw (.fieldLinkNest "ServiceGame" 169 "ServiceGame$Service" "checkAnswers" "[I" "ServiceGame") (by decide +kernel)) (fun _ h9 => h9) dX7_check_82 ?_
            refine lv_iload_n hx hb dX7_check_85 rfl (lv_at hl 4 rfl) ?_
            obtain ⟨v24, h25, hf⟩ := hs_bi hf
            refine x_iald hx hb hK hB h25 dX7_check_86 ?_
            obtain ⟨rfl, rfl⟩ := hs_ri hf
            exact hs_iret hx hb hr hlk hB hS dX7_check_87
          have hf := hs_ff h21 hf
          by_cases h26 : a4 = 3
          · have hf := hs_tt h26 hf
            refine lv_tableIn (tgt := 88) hx hb dX7_check_33 (by rw [h26]; decide) (by rw [h26]; decide) (by rw [h26]; exact rfl) (by decide) ?_
            refine lv_aload hx hb dX7_check_88 (lv_at hl 0 rfl) ?_
            obtain ⟨n28, h27, hf⟩ := hs_bi hf
            refine x_getNN hx hb hts inX7_check_X5 hown hK hB (by decide) rfl (k := 8) (by decide) rfl h27 (hNw (.fieldLinkNest "ServiceGame" 172 "ServiceGame$Service" "checkRights" "[I" "ServiceGame") (by decide +kernel)) (fun _ h9 => h9) dX7_check_90 ?_
            refine lv_iload_n hx hb dX7_check_93 rfl (lv_at hl 4 rfl) ?_
            obtain ⟨v29, h30, hf⟩ := hs_bi hf
            refine x_iald hx hb hK hB h30 dX7_check_94 ?_
            obtain ⟨rfl, rfl⟩ := hs_ri hf
            exact hs_iret hx hb hr hlk hB hS dX7_check_95
          have hf := hs_ff h26 hf
          refine lv_tableOut (tgt := 96) hx hb dX7_check_33 (by have g0 := lv_neT h11 (a := 0) (by decide); have g1 := lv_neT h16 (a := 1) (by decide); have g2 := lv_neT h21 (a := 2) (by decide); have g3 := lv_neT h26 (a := 3) (by decide); omega) (by decide) ?_
          refine lv_iconst (v := (-1)) hx hb dX7_check_96 (by decide) ?_
          obtain ⟨rfl, rfl⟩ := hs_ri hf
          exact hs_iret hx hb hr hlk hB hS dX7_check_97
        · have hf := hs_ff h10 hf
          refine lv_iconst (v := (-1)) hx hb dX7_check_29 (by decide) ?_
          obtain ⟨rfl, rfl⟩ := hs_ri hf
          exact hs_iret hx hb hr hlk hB hS dX7_check_30
end SX7_check
set_option maxRecDepth 100000 in
theorem ctX7_check (l : Launch) (fu : Nat) (σ : hs_T) (o : Nat) (a1 : Int32) (a2 : Int32) (a3 : Int32) (a4 : Int32) : hs_C0 hs_tvi l yX7_check wsX7_check rmX7_check (fun ad => [.ref (ad o), .int a1, .int a2, .int a3, .int a4]) σ (fX7_check fu σ o a1 a2 a3 a4) := by
  intro X ad sz r τ hf
  refine hs_enter (cc := cX7_check) (maxL := 6) (ret := (some .int)) (by decide) rfl (Nat.le_of_ble_eq_true rfl) ?_
  intro p e s m below meth c ls C hl hem hB hS hsz
  exact wX7_check_e fu C hem σ o a1 a2 a3 a4 hf hB hS hl
/-! ServiceGame.flag(III)I -/
abbrev rmX7_flag : Room := { frames := 4, cells := 0, slots := 0, locals := 86 }
def fX7_flag (fu : Nat) (σ : hs_T) (o : Nat) (a1 : Int32) (a2 : Int32) (a3 : Int32) : Option (Int32 × hs_T) :=
 (hs_ck σ 9 o).bind fun _ =>
 hs_b2 (fX7_find fu σ o a1 a2) fun r4 σ2 => hs_mt r4
 (some ((-1), σ2))
 (fun n5 =>
 (hs_ck σ2 9 o).bind fun _ =>
 hs_b2 (fX7_wasRound fu σ2 o a3) fun v9 σ7 =>
 if v9 = 0 then
 (some ((-1), σ7))
 else
 ((hs_ck σ7 9 o).bind fun _ =>
 hs_b2 (fX7_mix fu σ7 o a3 n5) fun v14 σ12 =>
 hs_b2 (fX7_flagOf fu σ12 v14) fun v17 σ16 =>
 some (v17, σ16)))
section SX7_flag
variable {p : Program} {l : Launch} {e : Env} {s : State} {m : MethodId} {args : Array Value} {below : List Frame} {meth : Method} {c : Code} {X : hs_X} {ad : Nat → Nat} {A : Nat → Prop} {r : Int32} {τ : hs_T}
set_option maxRecDepth 100000 in
set_option maxHeartbeats 4000000 in
theorem wX7_flag_e (fu : Nat) (C : hs_Cx p s m args meth c X A yX7_flag cX7_flag 5 (some .int) wsX7_flag) (hem : ad hs_em = X.2.2.1.2.2.2) {H : Heap} {locs : List Loc} {ls : Array Slot} (σ : hs_T) (o : Nat) (a1 : Int32) (a2 : Int32) (a3 : Int32) (hf : fX7_flag fu σ o a1 a2 a3 = some (r, τ)) (hB : hs_H X.1 X.2.1 ad A σ H) (hS : va_S A s.heap H locs) (hl : lv_has ls 5 [(0, .ref (ad o)), (1, .int a1), (2, .int a2), (3, .int a3)]) : W p l e rmX7_flag s m args below meth c H locs 0 0 (MQ below (hs_Q0 hs_tvi X ad A r τ) args s 0 0 A) (F0 m 0 ls []) := by
  obtain ⟨hx, hb, hml, hr, hts, hown, hlk, hnm, hV, hA0, hA⟩ := id C
  have hown : s.vm.findClass RX7 = some m.cls := hown
  have hK := hV.1
  have hNw := hV.2.1
  unfold fX7_flag at hf
  refine lv_aload_n hx hb dX7_flag_0 rfl (lv_at hl 0 rfl) ?_
  refine lv_iload_n hx hb dX7_flag_1 rfl (lv_at hl 1 rfl) ?_
  refine lv_iload_n hx hb dX7_flag_2 rfl (lv_at hl 2 rfl) ?_
  obtain ⟨_, h3, hf⟩ := hs_bi hf
  obtain ⟨r4, σ2, h1, hf⟩ := hs_b2i hf
  cases r4 with
  | none =>
    have hf := hs_mn hf
    refine hs_call0 (va_runV (As := [.int a1, .int a2]) (rest := []) ⟨hx, hb, hml, hown, hts⟩ (ctX7_find l fu σ o a1 a2 X ad H.size _ _ h1) (cwV 2 hts gX7_flag_X7_find rfl rfl rfl (by decide +kernel) ⟨Nat.le_of_ble_eq_true rfl, Nat.le_of_ble_eq_true rfl⟩) (hs_preV (hs_recv hK hB (hs_ck_i h3) (by decide) rfl) hV hB hS hA0 hA hem) rfl rfl hl.1 rfl (lv_room (Nat.le_of_ble_eq_true rfl)) dX7_flag_3 ⟨Nat.le_of_ble_eq_true rfl, Nat.le_of_ble_eq_true rfl⟩) hB hS hA rfl (fun H locs hB hS => ?_)
    refine lv_astoreN (lv' := [(4, .null), (0, .ref (ad o)), (1, .int a1), (2, .int a2), (3, .int a3)]) hx hb dX7_flag_6 hl (by decide) rfl (fun ls hl => ?_)
    refine lv_aloadN hx hb dX7_flag_8 (lv_at hl 0 rfl) ?_
    refine lv_ifnullN (tgt := 21) hx hb dX7_flag_10 (by decide) ?_
    refine lv_iconst (v := (-1)) hx hb dX7_flag_21 (by decide) ?_
    obtain ⟨rfl, rfl⟩ := hs_ri hf
    exact hs_iret hx hb hr hlk hB hS dX7_flag_22
  | some n5 =>
    have hf := hs_ms hf
    refine hs_call0 (va_runV (As := [.int a1, .int a2]) (rest := []) ⟨hx, hb, hml, hown, hts⟩ (ctX7_find l fu σ o a1 a2 X ad H.size _ _ h1) (cwV 2 hts gX7_flag_X7_find rfl rfl rfl (by decide +kernel) ⟨Nat.le_of_ble_eq_true rfl, Nat.le_of_ble_eq_true rfl⟩) (hs_preV (hs_recv hK hB (hs_ck_i h3) (by decide) rfl) hV hB hS hA0 hA hem) rfl rfl hl.1 rfl (lv_room (Nat.le_of_ble_eq_true rfl)) dX7_flag_3 ⟨Nat.le_of_ble_eq_true rfl, Nat.le_of_ble_eq_true rfl⟩) hB hS hA rfl (fun H locs hB hS => ?_)
    refine lv_astore (lv' := [(4, .ref (ad n5)), (0, .ref (ad o)), (1, .int a1), (2, .int a2), (3, .int a3)]) hx hb dX7_flag_6 hl (by decide) rfl (fun ls hl => ?_)
    refine lv_aload hx hb dX7_flag_8 (lv_at hl 0 rfl) ?_
    refine lv_ifnull hx hb dX7_flag_10 ?_
    refine lv_aload_n hx hb dX7_flag_13 rfl (lv_at hl 1 rfl) ?_
    refine lv_iload_n hx hb dX7_flag_14 rfl (lv_at hl 4 rfl) ?_
    obtain ⟨_, h8, hf⟩ := hs_bi hf
    obtain ⟨v9, σ7, h6, hf⟩ := hs_b2i hf
    refine hs_call0 (va_runV (As := [.int a3]) (rest := []) ⟨hx, hb, hml, hown, hts⟩ (ctX7_wasRound l fu σ2 o a3 X ad H.size _ _ h6) (cwV 1 hts gX7_flag_X7_wasRound rfl rfl rfl (by decide +kernel) ⟨Nat.le_of_ble_eq_true rfl, Nat.le_of_ble_eq_true rfl⟩) (hs_preV (hs_recv hK hB (hs_ck_i h8) (by decide) rfl) hV hB hS hA0 hA hem) rfl rfl hl.1 rfl (lv_room (Nat.le_of_ble_eq_true rfl)) dX7_flag_15 ⟨Nat.le_of_ble_eq_true rfl, Nat.le_of_ble_eq_true rfl⟩) hB hS hA rfl (fun H locs hB hS => ?_)
    refine lv_if_ne (tgt := 23) hx hb dX7_flag_18 (by decide) (fun h10 => ?_) (fun h10 => ?_)
    · have hf := hs_ff h10 hf
      refine lv_aload_n hx hb dX7_flag_23 rfl (lv_at hl 1 rfl) ?_
      refine lv_iload_n hx hb dX7_flag_24 rfl (lv_at hl 4 rfl) ?_
      refine lv_aload hx hb dX7_flag_25 (lv_at hl 0 rfl) ?_
      obtain ⟨_, h13, hf⟩ := hs_bi hf
      obtain ⟨v14, σ12, h11, hf⟩ := hs_b2i hf
      refine hs_call0 (va_runV (As := [.int a3, .ref (ad n5)]) (rest := []) ⟨hx, hb, hml, hown, hts⟩ (ctX7_mix l fu σ7 o a3 n5 X ad H.size _ _ h11) (cwV 2 hts gX7_flag_X7_mix rfl rfl rfl (by decide +kernel) ⟨Nat.le_of_ble_eq_true rfl, Nat.le_of_ble_eq_true rfl⟩) (hs_preV (hs_recv hK hB (hs_ck_i h13) (by decide) rfl) hV hB hS hA0 hA hem) rfl rfl hl.1 rfl (lv_room (Nat.le_of_ble_eq_true rfl)) dX7_flag_27 ⟨Nat.le_of_ble_eq_true rfl, Nat.le_of_ble_eq_true rfl⟩) hB hS hA rfl (fun H locs hB hS => ?_)
      obtain ⟨v17, σ16, h15, hf⟩ := hs_b2i hf
      refine hs_call0 (va_runS (As := [.int v14]) (rest := []) ⟨hx, hb, hml, hown, hts⟩ (ctX7_flagOf l fu σ12 v14 X ad H.size _ _ h15) (va_cwS 1 hts gX7_flag_X7_flagOf rfl rfl rfl (by decide +kernel) ⟨Nat.le_of_ble_eq_true rfl, Nat.le_of_ble_eq_true rfl⟩) (hs_pre hV hB hS hA0 hA hem) rfl rfl hl.1 rfl (lv_room (Nat.le_of_ble_eq_true rfl)) dX7_flag_30 ⟨Nat.le_of_ble_eq_true rfl, Nat.le_of_ble_eq_true rfl⟩) hB hS hA rfl (fun H locs hB hS => ?_)
      obtain ⟨rfl, rfl⟩ := hs_ri hf
      exact hs_iret hx hb hr hlk hB hS dX7_flag_33
    · have hf := hs_tt h10 hf
      refine lv_iconst (v := (-1)) hx hb dX7_flag_21 (by decide) ?_
      obtain ⟨rfl, rfl⟩ := hs_ri hf
      exact hs_iret hx hb hr hlk hB hS dX7_flag_22
end SX7_flag
set_option maxRecDepth 100000 in
theorem ctX7_flag (l : Launch) (fu : Nat) (σ : hs_T) (o : Nat) (a1 : Int32) (a2 : Int32) (a3 : Int32) : hs_C0 hs_tvi l yX7_flag wsX7_flag rmX7_flag (fun ad => [.ref (ad o), .int a1, .int a2, .int a3]) σ (fX7_flag fu σ o a1 a2 a3) := by
  intro X ad sz r τ hf
  refine hs_enter (cc := cX7_flag) (maxL := 5) (ret := (some .int)) (by decide) rfl (Nat.le_of_ble_eq_true rfl) ?_
  intro p e s m below meth c ls C hl hem hB hS hsz
  exact wX7_flag_e fu C hem σ o a1 a2 a3 hf hB hS hl
/-! ServiceGame.roundThatCounts(ILServiceGame$Service;I)I -/
abbrev rmX7_roundThatCounts : Room := { frames := 1, cells := 0, slots := 0, locals := 24 }
theorem inX7_roundThatCounts_X7 : ∀ w ∈ wsX70, w ∈ wsX7_roundThatCounts := fun _ h => List.mem_cons_of_mem _ (List.mem_append_left _ (List.mem_append_right _ h))
theorem lkX7_roundThatCounts_0 : Cond.fieldLink RX7 54 "ServiceGame" "rounds" "I" ∈ wsX7_roundThatCounts := by decide +kernel
theorem lkX7_roundThatCounts_1 : Cond.fieldLink RX7 7 "ServiceGame" "settings" "[I" ∈ wsX7_roundThatCounts := by decide +kernel
theorem lkX7_roundThatCounts_2 : Cond.methodLink RX7 249 Lib.Math.max.name ∈ wsX7_roundThatCounts := by decide +kernel
theorem lkX7_roundThatCounts_3 : Cond.static Lib.Math.max.name ∈ wsX7_roundThatCounts := by decide +kernel
theorem lkX7_roundThatCounts_4 : Cond.initialized "java/lang/Math" ∈ wsX7_roundThatCounts := by decide +kernel
theorem lkX7_roundThatCounts_5 : Cond.code Lib.Math.max.name Lib.Math.max.code 2 (some .int) ∈ wsX7_roundThatCounts := by decide +kernel
theorem lkX7_roundThatCounts_6 : Cond.initialized RX5 ∈ wsX7_roundThatCounts := by decide +kernel
theorem lkX7_roundThatCounts_7 : Cond.instanceMethod yX5_isTaken ∈ wsX7_roundThatCounts := by decide +kernel
theorem lkX7_roundThatCounts_8 : Cond.selects RX5 yX5_isTaken yX5_isTaken ∈ wsX7_roundThatCounts := by decide +kernel
def fX7_roundThatCounts_25b (fu : Nat)  (k25 : hs_T → Nat → Int32 → Nat → Int32 → Int32 → Int32 → Option (Int32 × hs_T)) (σ : hs_T) (x0 : Nat) (x1 : Int32) (x2 : Nat) (x3 : Int32) (x4 : Int32) (x5 : Int32) : Option (Int32 × hs_T) :=
 if x5 < x4 then
 (some ((-1), σ))
 else
 ((hs_ck σ 9 x0).bind fun _ =>
 hs_b2 (fX7_mix fu σ x0 x5 x2) fun v13 σ11 =>
 hs_b2 (fX7_flagOf fu σ11 v13) fun v16 σ15 =>
 if v16 = x3 then
 ((hs_ck σ15 7 x2).bind fun _ =>
 hs_b2 (fX5_isTaken fu σ15 x2 x1 x5 100) fun v21 σ19 =>
 if v21 = 0 then
 (some (x5, σ19))
 else
 (k25 σ19 x0 x1 x2 x3 x4 (x5 + (-1))))
 else
 (k25 σ15 x0 x1 x2 x3 x4 (x5 + (-1))))
def fX7_roundThatCounts_25 (fu : Nat)  (σ : hs_T) (x0 : Nat) (x1 : Int32) (x2 : Nat) (x3 : Int32) (x4 : Int32) (x5 : Int32) : Option (Int32 × hs_T) :=
   hs_lp (fun (k : hs_T × Nat × Int32 × Nat × Int32 × Int32 × Int32 → Option (Int32 × hs_T)) (a : hs_T × Nat × Int32 × Nat × Int32 × Int32 × Int32) => fX7_roundThatCounts_25b fu  (fun σ x0 x1 x2 x3 x4 x5 => k (σ, x0, x1, x2, x3, x4, x5)) a.1 a.2.1 a.2.2.1 a.2.2.2.1 a.2.2.2.2.1 a.2.2.2.2.2.1 a.2.2.2.2.2.2) fu (σ, x0, x1, x2, x3, x4, x5)
def fX7_roundThatCounts (fu : Nat) (σ : hs_T) (o : Nat) (a1 : Int32) (a2 : Nat) (a3 : Int32) : Option (Int32 × hs_T) :=
 (hs_gI σ 9 o 8).bind fun v2 =>
 (hs_gN σ 9 o 0).bind fun n4 =>
 (hs_ld σ 11 n4 2).bind fun v5 =>
 (hs_gI σ 9 o 8).bind fun v8 =>
 fX7_roundThatCounts_25 fu σ o a1 a2 a3 (if 0 < (v2 - v5) then (v2 - v5) else 0) (v8 - 1)
section SX7_roundThatCounts
variable {p : Program} {l : Launch} {e : Env} {s : State} {m : MethodId} {args : Array Value} {below : List Frame} {meth : Method} {c : Code} {X : hs_X} {ad : Nat → Nat} {A : Nat → Prop} {r : Int32} {τ : hs_T}
set_option maxRecDepth 100000 in
set_option maxHeartbeats 4000000 in
theorem wX7_roundThatCounts_25b (fu : Nat) (C : hs_Cx p s m args meth c X A yX7_roundThatCounts cX7_roundThatCounts 6 (some .int) wsX7_roundThatCounts) (hem : ad hs_em = X.2.2.1.2.2.2)  (k25 : hs_T → Nat → Int32 → Nat → Int32 → Int32 → Int32 → Option (Int32 × hs_T)) (hk25 : ∀ (σ : hs_T) (x0 : Nat) (x1 : Int32) (x2 : Nat) (x3 : Int32) (x4 : Int32) (x5 : Int32) (H : Heap) (locs : List Loc) (ls : Array Slot), k25 σ x0 x1 x2 x3 x4 x5 = some (r, τ) → hs_H X.1 X.2.1 ad A σ H → va_S A s.heap H locs → lv_has ls 6 [(0, .ref (ad x0)), (1, .int x1), (2, .ref (ad x2)), (3, .int x3), (4, .int x4), (5, .int x5)] → W p l e rmX7_roundThatCounts s m args below meth c H locs 0 0 (MQ below (hs_Q0 hs_tvi X ad A r τ) args s 0 0 A) (F0 m 25 ls [])) {H : Heap} {locs : List Loc} {ls : Array Slot} (σ : hs_T) (x0 : Nat) (x1 : Int32) (x2 : Nat) (x3 : Int32) (x4 : Int32) (x5 : Int32) (hf : fX7_roundThatCounts_25b fu  k25 σ x0 x1 x2 x3 x4 x5 = some (r, τ)) (hB : hs_H X.1 X.2.1 ad A σ H) (hS : va_S A s.heap H locs) (hl : lv_has ls 6 [(0, .ref (ad x0)), (1, .int x1), (2, .ref (ad x2)), (3, .int x3), (4, .int x4), (5, .int x5)]) : W p l e rmX7_roundThatCounts s m args below meth c H locs 0 0 (MQ below (hs_Q0 hs_tvi X ad A r τ) args s 0 0 A) (F0 m 25 ls []) := by
  obtain ⟨hx, hb, hml, hr, hts, hown, hlk, hnm, hV, hA0, hA⟩ := id C
  have hown : s.vm.findClass RX7 = some m.cls := hown
  have hK := hV.1
  have hNw := hV.2.1
  unfold fX7_roundThatCounts_25b at hf
  refine lv_iload hx hb dX7_roundThatCounts_25 (lv_at hl 5 rfl) ?_
  refine lv_iload hx hb dX7_roundThatCounts_27 (lv_at hl 4 rfl) ?_
  refine lv_icmp_lt (tgt := 67) hx hb dX7_roundThatCounts_29 (by decide) (fun h9 => ?_) (fun h9 => ?_)
  · have hf := hs_tt h9 hf
    refine lv_iconst (v := (-1)) hx hb dX7_roundThatCounts_67 (by decide) ?_
    obtain ⟨rfl, rfl⟩ := hs_ri hf
    exact hs_iret hx hb hr hlk hB hS dX7_roundThatCounts_68
  · have hf := hs_ff h9 hf
    refine lv_aload_n hx hb dX7_roundThatCounts_32 rfl (lv_at hl 0 rfl) ?_
    refine lv_iload hx hb dX7_roundThatCounts_33 (lv_at hl 5 rfl) ?_
    refine lv_aload_n hx hb dX7_roundThatCounts_35 rfl (lv_at hl 2 rfl) ?_
    obtain ⟨_, h12, hf⟩ := hs_bi hf
    obtain ⟨v13, σ11, h10, hf⟩ := hs_b2i hf
    refine hs_call0 (va_runV (As := [.int x5, .ref (ad x2)]) (rest := []) ⟨hx, hb, hml, hown, hts⟩ (ctX7_mix l fu σ x0 x5 x2 X ad H.size _ _ h10) (cwV 2 hts gX7_roundThatCounts_X7_mix rfl rfl rfl (by decide +kernel) ⟨Nat.le_of_ble_eq_true rfl, Nat.le_of_ble_eq_true rfl⟩) (hs_preV (hs_recv hK hB (hs_ck_i h12) (by decide) rfl) hV hB hS hA0 hA hem) rfl rfl hl.1 rfl (lv_room (Nat.le_of_ble_eq_true rfl)) dX7_roundThatCounts_36 ⟨Nat.le_of_ble_eq_true rfl, Nat.le_of_ble_eq_true rfl⟩) hB hS hA rfl (fun H locs hB hS => ?_)
    obtain ⟨v16, σ15, h14, hf⟩ := hs_b2i hf
    refine hs_call0 (va_runS (As := [.int v13]) (rest := []) ⟨hx, hb, hml, hown, hts⟩ (ctX7_flagOf l fu σ11 v13 X ad H.size _ _ h14) (va_cwS 1 hts gX7_roundThatCounts_X7_flagOf rfl rfl rfl (by decide +kernel) ⟨Nat.le_of_ble_eq_true rfl, Nat.le_of_ble_eq_true rfl⟩) (hs_pre hV hB hS hA0 hA hem) rfl rfl hl.1 rfl (lv_room (Nat.le_of_ble_eq_true rfl)) dX7_roundThatCounts_39 ⟨Nat.le_of_ble_eq_true rfl, Nat.le_of_ble_eq_true rfl⟩) hB hS hA rfl (fun H locs hB hS => ?_)
    refine lv_iload_n hx hb dX7_roundThatCounts_42 rfl (lv_at hl 3 rfl) ?_
    refine lv_icmp_ne (tgt := 61) hx hb dX7_roundThatCounts_43 (by decide) (fun h17 => ?_) (fun h17 => ?_)
    · have hf := hs_ff h17 hf
      refine lv_iinc (v := (x5 + (-1))) (lv' := [(5, .int (x5 + (-1))), (0, .ref (ad x0)), (1, .int x1), (2, .ref (ad x2)), (3, .int x3), (4, .int x4)]) hx hb dX7_roundThatCounts_61 hl (k := 5) rfl rfl (by decide) rfl (fun ls hl => ?_)
      refine lv_goto (tgt := 25) hx hb dX7_roundThatCounts_64 (by decide) ?_
      exact hk25 σ15 x0 x1 x2 x3 x4 (x5 + (-1)) _ _ _ hf hB hS (lv_sub hl [1, 2, 3, 4, 5, 0] rfl)
    · have hf := hs_tt h17 hf
      refine lv_aload_n hx hb dX7_roundThatCounts_46 rfl (lv_at hl 2 rfl) ?_
      refine lv_iload_n hx hb dX7_roundThatCounts_47 rfl (lv_at hl 1 rfl) ?_
      refine lv_iload hx hb dX7_roundThatCounts_48 (lv_at hl 5 rfl) ?_
      refine lv_bipush (v := 100) hx hb dX7_roundThatCounts_50 (by decide) ?_
      obtain ⟨_, h20, hf⟩ := hs_bi hf
      obtain ⟨v21, σ19, h18, hf⟩ := hs_b2i hf
      refine hs_call0 (va_runVN (As := [.int x1, .int x5, .int 100]) (rest := []) ⟨hx, hb, hml, hown, hts⟩ (ctX5_isTaken l fu σ15 x2 x1 x5 100 X ad H.size _ _ h18) ⟨va_cnB 3 hts gX7_roundThatCounts_X5_isTaken_n254 rfl rfl rfl (hNw (.methodLinkNest "ServiceGame" 254 yX5_isTaken "ServiceGame") (by decide +kernel)) (hts _ lkX7_roundThatCounts_6) (by decide +kernel) ⟨Nat.le_of_ble_eq_true rfl, Nat.le_of_ble_eq_true rfl⟩, (hts _ lkX7_roundThatCounts_7), (hts _ lkX7_roundThatCounts_8)⟩ (hs_preV (hs_recv hK hB (hs_ck_i h20) (by decide) rfl) hV hB hS hA0 hA hem) rfl rfl hl.1 rfl (lv_room (Nat.le_of_ble_eq_true rfl)) dX7_roundThatCounts_52 ⟨Nat.le_of_ble_eq_true rfl, Nat.le_of_ble_eq_true rfl⟩) hB hS hA rfl (fun H locs hB hS => ?_)
      refine lv_if_ne (tgt := 61) hx hb dX7_roundThatCounts_55 (by decide) (fun h22 => ?_) (fun h22 => ?_)
      · have hf := hs_ff h22 hf
        refine lv_iinc (v := (x5 + (-1))) (lv' := [(5, .int (x5 + (-1))), (0, .ref (ad x0)), (1, .int x1), (2, .ref (ad x2)), (3, .int x3), (4, .int x4)]) hx hb dX7_roundThatCounts_61 hl (k := 5) rfl rfl (by decide) rfl (fun ls hl => ?_)
        refine lv_goto (tgt := 25) hx hb dX7_roundThatCounts_64 (by decide) ?_
        exact hk25 σ19 x0 x1 x2 x3 x4 (x5 + (-1)) _ _ _ hf hB hS (lv_sub hl [1, 2, 3, 4, 5, 0] rfl)
      · have hf := hs_tt h22 hf
        refine lv_iload hx hb dX7_roundThatCounts_58 (lv_at hl 5 rfl) ?_
        obtain ⟨rfl, rfl⟩ := hs_ri hf
        exact hs_iret hx hb hr hlk hB hS dX7_roundThatCounts_60
set_option maxRecDepth 100000 in
set_option maxHeartbeats 4000000 in
theorem wX7_roundThatCounts_25 (fu : Nat) (C : hs_Cx p s m args meth c X A yX7_roundThatCounts cX7_roundThatCounts 6 (some .int) wsX7_roundThatCounts) (hem : ad hs_em = X.2.2.1.2.2.2)  {H : Heap} {locs : List Loc} {ls : Array Slot} (σ : hs_T) (x0 : Nat) (x1 : Int32) (x2 : Nat) (x3 : Int32) (x4 : Int32) (x5 : Int32) (hf : fX7_roundThatCounts_25 fu  σ x0 x1 x2 x3 x4 x5 = some (r, τ)) (hB : hs_H X.1 X.2.1 ad A σ H) (hS : va_S A s.heap H locs) (hl : lv_has ls 6 [(0, .ref (ad x0)), (1, .int x1), (2, .ref (ad x2)), (3, .int x3), (4, .int x4), (5, .int x5)]) : W p l e rmX7_roundThatCounts s m args below meth c H locs 0 0 (MQ below (hs_Q0 hs_tvi X ad A r τ) args s 0 0 A) (F0 m 25 ls []) := by
  unfold fX7_roundThatCounts_25 at hf
  exact hs_lp_i (P := fun a => ∀ (H : Heap) (locs : List Loc) (ls : Array Slot), hs_H X.1 X.2.1 ad A a.1 H → va_S A s.heap H locs → lv_has ls 6 [(0, .ref (ad a.2.1)), (1, .int a.2.2.1), (2, .ref (ad a.2.2.2.1)), (3, .int a.2.2.2.2.1), (4, .int a.2.2.2.2.2.1), (5, .int a.2.2.2.2.2.2)] → W p l e rmX7_roundThatCounts s m args below meth c H locs 0 0 (MQ below (hs_Q0 hs_tvi X ad A r τ) args s 0 0 A) (F0 m 25 ls [])) (fun k a hk hf H locs ls hB hS hl => wX7_roundThatCounts_25b fu C hem  _ (fun σ x0 x1 x2 x3 x4 x5 H locs ls hf hB hS hl => hk (σ, x0, x1, x2, x3, x4, x5) hf H locs ls hB hS hl) a.1 a.2.1 a.2.2.1 a.2.2.2.1 a.2.2.2.2.1 a.2.2.2.2.2.1 a.2.2.2.2.2.2 hf hB hS hl) fu (σ, x0, x1, x2, x3, x4, x5) hf H locs ls hB hS hl
set_option maxRecDepth 100000 in
set_option maxHeartbeats 4000000 in
theorem wX7_roundThatCounts_e (fu : Nat) (C : hs_Cx p s m args meth c X A yX7_roundThatCounts cX7_roundThatCounts 6 (some .int) wsX7_roundThatCounts) (hem : ad hs_em = X.2.2.1.2.2.2) {H : Heap} {locs : List Loc} {ls : Array Slot} (σ : hs_T) (o : Nat) (a1 : Int32) (a2 : Nat) (a3 : Int32) (hf : fX7_roundThatCounts fu σ o a1 a2 a3 = some (r, τ)) (hB : hs_H X.1 X.2.1 ad A σ H) (hS : va_S A s.heap H locs) (hl : lv_has ls 6 [(0, .ref (ad o)), (1, .int a1), (2, .ref (ad a2)), (3, .int a3)]) : W p l e rmX7_roundThatCounts s m args below meth c H locs 0 0 (MQ below (hs_Q0 hs_tvi X ad A r τ) args s 0 0 A) (F0 m 0 ls []) := by
  obtain ⟨hx, hb, hml, hr, hts, hown, hlk, hnm, hV, hA0, hA⟩ := id C
  have hown : s.vm.findClass RX7 = some m.cls := hown
  have hK := hV.1
  have hNw := hV.2.1
  unfold fX7_roundThatCounts at hf
  refine lv_iconst (v := 0) hx hb dX7_roundThatCounts_0 (by decide) ?_
  refine lv_aload_n hx hb dX7_roundThatCounts_1 rfl (lv_at hl 0 rfl) ?_
  obtain ⟨v2, h1, hf⟩ := hs_bi hf
  refine x_getI hx hb hts inX7_roundThatCounts_X7 hown hK hB (by decide) rfl (k := 8) (by decide) rfl h1 (hts _ lkX7_roundThatCounts_0) (fun _ h9 => h9) dX7_roundThatCounts_2 ?_
  refine lv_aload_n hx hb dX7_roundThatCounts_5 rfl (lv_at hl 0 rfl) ?_
  obtain ⟨n4, h3, hf⟩ := hs_bi hf
  refine x_getN hx hb hts inX7_roundThatCounts_X7 hown hK hB (by decide) rfl (k := 0) (by decide) rfl h3 (hts _ lkX7_roundThatCounts_1) (fun _ h9 => h9) dX7_roundThatCounts_6 ?_
  refine lv_iconst (v := 2) hx hb dX7_roundThatCounts_9 (by decide) ?_
  obtain ⟨v5, h6, hf⟩ := hs_bi hf
  refine x_iald hx hb hK hB h6 dX7_roundThatCounts_10 ?_
  refine lv_isub hx hb dX7_roundThatCounts_11 ?_
  refine va_mmax hx hb (hml.trans hl.1.symm) hown (hts _ lkX7_roundThatCounts_2) (hts _ lkX7_roundThatCounts_3) (hts _ lkX7_roundThatCounts_4) (hts _ lkX7_roundThatCounts_5) (Nat.le_of_ble_eq_true rfl) (Nat.le_of_ble_eq_true rfl) (Nat.le_of_ble_eq_true rfl) (Nat.le_of_ble_eq_true rfl) dX7_roundThatCounts_12 ?_
  refine lv_istore (lv' := [(4, .int (if 0 < (v2 - v5) then (v2 - v5) else 0)), (0, .ref (ad o)), (1, .int a1), (2, .ref (ad a2)), (3, .int a3)]) hx hb dX7_roundThatCounts_15 hl (by decide) rfl (fun ls hl => ?_)
  refine lv_aload_n hx hb dX7_roundThatCounts_17 rfl (lv_at hl 1 rfl) ?_
  obtain ⟨v8, h7, hf⟩ := hs_bi hf
  refine x_getI hx hb hts inX7_roundThatCounts_X7 hown hK hB (by decide) rfl (k := 8) (by decide) rfl h7 (hts _ lkX7_roundThatCounts_0) (fun _ h9 => h9) dX7_roundThatCounts_18 ?_
  refine lv_iconst (v := 1) hx hb dX7_roundThatCounts_21 (by decide) ?_
  refine lv_isub hx hb dX7_roundThatCounts_22 ?_
  refine lv_istore (lv' := [(5, .int (v8 - 1)), (4, .int (if 0 < (v2 - v5) then (v2 - v5) else 0)), (0, .ref (ad o)), (1, .int a1), (2, .ref (ad a2)), (3, .int a3)]) hx hb dX7_roundThatCounts_23 hl (by decide) rfl (fun ls hl => ?_)
  exact wX7_roundThatCounts_25 fu C hem σ o a1 a2 a3 (if 0 < (v2 - v5) then (v2 - v5) else 0) (v8 - 1) hf hB hS (lv_sub hl [2, 3, 4, 5, 1, 0] rfl)
end SX7_roundThatCounts
set_option maxRecDepth 100000 in
theorem ctX7_roundThatCounts (l : Launch) (fu : Nat) (σ : hs_T) (o : Nat) (a1 : Int32) (a2 : Nat) (a3 : Int32) : hs_C0 hs_tvi l yX7_roundThatCounts wsX7_roundThatCounts rmX7_roundThatCounts (fun ad => [.ref (ad o), .int a1, .ref (ad a2), .int a3]) σ (fX7_roundThatCounts fu σ o a1 a2 a3) := by
  intro X ad sz r τ hf
  refine hs_enter (cc := cX7_roundThatCounts) (maxL := 6) (ret := (some .int)) (by decide) rfl (Nat.le_of_ble_eq_true rfl) ?_
  intro p e s m below meth c ls C hl hem hB hS hsz
  exact wX7_roundThatCounts_e fu C hem σ o a1 a2 a3 hf hB hS hl
/-! ServiceGame.share(I)I -/
abbrev rmX7_share : Room := { frames := 0, cells := 0, slots := 0, locals := 0 }
def fX7_share (fu : Nat) (σ : hs_T) (a1 : Int32) : Option (Int32 × hs_T) :=
 if a1 ≤ 0 then
 (some (0, σ))
 else
 ((hs_nz a1).bind fun _ =>
 some ((60 / a1), σ))
section SX7_share
variable {p : Program} {l : Launch} {e : Env} {s : State} {m : MethodId} {args : Array Value} {below : List Frame} {meth : Method} {c : Code} {X : hs_X} {ad : Nat → Nat} {A : Nat → Prop} {r : Int32} {τ : hs_T}
set_option maxRecDepth 100000 in
set_option maxHeartbeats 4000000 in
theorem wX7_share_e (fu : Nat) (C : hs_Cx p s m args meth c X A yX7_share cX7_share 1 (some .int) wsX7_share) (hem : ad hs_em = X.2.2.1.2.2.2) {H : Heap} {locs : List Loc} {ls : Array Slot} (σ : hs_T) (a1 : Int32) (hf : fX7_share fu σ a1 = some (r, τ)) (hB : hs_H X.1 X.2.1 ad A σ H) (hS : va_S A s.heap H locs) (hl : lv_has ls 1 [(0, .int a1)]) : W p l e rmX7_share s m args below meth c H locs 0 0 (MQ below (hs_Q0 hs_tvi X ad A r τ) args s 0 0 A) (F0 m 0 ls []) := by
  obtain ⟨hx, hb, hml, hr, hts, hown, hlk, hnm, hV, hA0, hA⟩ := id C
  have hown : s.vm.findClass RX7 = some m.cls := hown
  have hK := hV.1
  have hNw := hV.2.1
  unfold fX7_share at hf
  refine lv_iload_n hx hb dX7_share_0 rfl (lv_at hl 0 rfl) ?_
  refine lv_if_le (tgt := 11) hx hb dX7_share_1 (by decide) (fun h1 => ?_) (fun h1 => ?_)
  · have hf := hs_tt h1 hf
    refine lv_iconst (v := 0) hx hb dX7_share_11 (by decide) ?_
    obtain ⟨rfl, rfl⟩ := hs_ri hf
    exact hs_iret hx hb hr hlk hB hS dX7_share_12
  · have hf := hs_ff h1 hf
    refine lv_bipush (v := 60) hx hb dX7_share_4 (by decide) ?_
    refine lv_iload_n hx hb dX7_share_6 rfl (lv_at hl 0 rfl) ?_
    obtain ⟨_, h2, hf⟩ := hs_bi hf
    refine lv_idiv hx hb dX7_share_7 (hs_nz_i h2) ?_
    refine lv_goto (tgt := 12) hx hb dX7_share_8 (by decide) ?_
    obtain ⟨rfl, rfl⟩ := hs_ri hf
    exact hs_iret hx hb hr hlk hB hS dX7_share_12
end SX7_share
set_option maxRecDepth 100000 in
theorem ctX7_share (l : Launch) (fu : Nat) (σ : hs_T) (a1 : Int32) : hs_C0 hs_tvi l yX7_share wsX7_share rmX7_share (fun ad => [.int a1]) σ (fX7_share fu σ a1) := by
  intro X ad sz r τ hf
  refine hs_enter (cc := cX7_share) (maxL := 1) (ret := (some .int)) (by decide) rfl (Nat.le_of_ble_eq_true rfl) ?_
  intro p e s m below meth c ls C hl hem hB hS hsz
  exact wX7_share_e fu C hem σ a1 hf hB hS hl
