/-! ServiceGameModel.isHanded(IIII)Z -/
abbrev rmX8_isHanded : Room := { frames := 1, cells := 0, slots := 0, locals := 23 }
def fX8_isHanded (fu : Nat) (σ : hs_T) (o : Nat) (a1 : Int32) (a2 : Int32) (a3 : Int32) (a4 : Int32) : Option (Int32 × hs_T) :=
 (hs_ck σ 10 o).bind fun _ =>
 hs_b2 (fX8_handed fu σ o a1 a2 a3) fun v4 σ2 =>
 if v4 < 0 then
 (some (0, σ2))
 else
 (if a4 ≤ v4 then
 (some (0, σ2))
 else
 (some (1, σ2)))
section SX8_isHanded
variable {p : Program} {l : Launch} {e : Env} {s : State} {m : MethodId} {args : Array Value} {below : List Frame} {meth : Method} {c : Code} {X : hs_X} {ad : Nat → Nat} {A : Nat → Prop} {r : Int32} {τ : hs_T}
set_option maxRecDepth 100000 in
set_option maxHeartbeats 4000000 in
theorem wX8_isHanded_e (fu : Nat) (C : hs_Cx p s m args meth c X A yX8_isHanded cX8_isHanded 6 (some .boolean) wsX8_isHanded) (hem : ad hs_em = X.2.2.1.2.2.2) {H : Heap} {locs : List Loc} {ls : Array Slot} (σ : hs_T) (o : Nat) (a1 : Int32) (a2 : Int32) (a3 : Int32) (a4 : Int32) (hf : fX8_isHanded fu σ o a1 a2 a3 a4 = some (r, τ)) (hB : hs_H X.1 X.2.1 ad A σ H) (hS : va_S A s.heap H locs) (hl : lv_has ls 6 [(0, .ref (ad o)), (1, .int a1), (2, .int a2), (3, .int a3), (4, .int a4)]) : W p l e rmX8_isHanded s m args below meth c H locs 0 0 (MQ below (hs_Q0 hs_tvi X ad A r τ) args s 0 0 A) (F0 m 0 ls []) := by
  obtain ⟨hx, hb, hml, hr, hts, hown, hlk, hnm, hV, hA0, hA⟩ := id C
  have hown : s.vm.findClass RX8 = some m.cls := hown
  have hK := hV.1
  have hNw := hV.2.1
  unfold fX8_isHanded at hf
  refine lv_aload_n hx hb dX8_isHanded_0 rfl (lv_at hl 0 rfl) ?_
  refine lv_iload_n hx hb dX8_isHanded_1 rfl (lv_at hl 1 rfl) ?_
  refine lv_iload_n hx hb dX8_isHanded_2 rfl (lv_at hl 2 rfl) ?_
  refine lv_iload_n hx hb dX8_isHanded_3 rfl (lv_at hl 3 rfl) ?_
  obtain ⟨_, h3, hf⟩ := hs_bi hf
  obtain ⟨v4, σ2, h1, hf⟩ := hs_b2i hf
  refine hs_call0 (va_runV (As := [.int a1, .int a2, .int a3]) (rest := []) ⟨hx, hb, hml, hown, hts⟩ (ctX8_handed l fu σ o a1 a2 a3 X ad H.size _ _ h1) (cwV 3 hts gX8_isHanded_X8_handed rfl rfl rfl (by decide +kernel) ⟨Nat.le_of_ble_eq_true rfl, Nat.le_of_ble_eq_true rfl⟩) (hs_preV (hs_recv hK hB (hs_ck_i h3) (by decide) rfl) hV hB hS hA0 hA hem) rfl rfl hl.1 rfl (lv_room (Nat.le_of_ble_eq_true rfl)) dX8_isHanded_4 ⟨Nat.le_of_ble_eq_true rfl, Nat.le_of_ble_eq_true rfl⟩) hB hS hA rfl (fun H locs hB hS => ?_)
  refine lv_istore (lv' := [(5, .int v4), (0, .ref (ad o)), (1, .int a1), (2, .int a2), (3, .int a3), (4, .int a4)]) hx hb dX8_isHanded_7 hl (by decide) rfl (fun ls hl => ?_)
  refine lv_iload hx hb dX8_isHanded_9 (lv_at hl 0 rfl) ?_
  refine lv_if_lt (tgt := 25) hx hb dX8_isHanded_11 (by decide) (fun h5 => ?_) (fun h5 => ?_)
  · have hf := hs_tt h5 hf
    refine lv_iconst (v := 0) hx hb dX8_isHanded_25 (by decide) ?_
    obtain ⟨rfl, rfl⟩ := hs_ri hf
    exact hs_zret hx hb hr hlk (by decide) hB hS dX8_isHanded_26
  · have hf := hs_ff h5 hf
    refine lv_iload hx hb dX8_isHanded_14 (lv_at hl 0 rfl) ?_
    refine lv_iload hx hb dX8_isHanded_16 (lv_at hl 5 rfl) ?_
    refine lv_icmp_ge (tgt := 25) hx hb dX8_isHanded_18 (by decide) (fun h6 => ?_) (fun h6 => ?_)
    · have hf := hs_tt h6 hf
      refine lv_iconst (v := 0) hx hb dX8_isHanded_25 (by decide) ?_
      obtain ⟨rfl, rfl⟩ := hs_ri hf
      exact hs_zret hx hb hr hlk (by decide) hB hS dX8_isHanded_26
    · have hf := hs_ff h6 hf
      refine lv_iconst (v := 1) hx hb dX8_isHanded_21 (by decide) ?_
      refine lv_goto (tgt := 26) hx hb dX8_isHanded_22 (by decide) ?_
      obtain ⟨rfl, rfl⟩ := hs_ri hf
      exact hs_zret hx hb hr hlk (by decide) hB hS dX8_isHanded_26
end SX8_isHanded
set_option maxRecDepth 100000 in
theorem ctX8_isHanded (l : Launch) (fu : Nat) (σ : hs_T) (o : Nat) (a1 : Int32) (a2 : Int32) (a3 : Int32) (a4 : Int32) : hs_C0 hs_tvi l yX8_isHanded wsX8_isHanded rmX8_isHanded (fun ad => [.ref (ad o), .int a1, .int a2, .int a3, .int a4]) σ (fX8_isHanded fu σ o a1 a2 a3 a4) := by
  intro X ad sz r τ hf
  refine hs_enter (cc := cX8_isHanded) (maxL := 6) (ret := (some .boolean)) (by decide) rfl (Nat.le_of_ble_eq_true rfl) ?_
  intro p e s m below meth c ls C hl hem hB hS hsz
  exact wX8_isHanded_e fu C hem σ o a1 a2 a3 a4 hf hB hS hl
/-! ServiceGameModel.stolen(III)V -/
abbrev rmX8_stolen : Room := { frames := 2, cells := 0, slots := 0, locals := 48 }
theorem inX8_stolen_X8 : ∀ w ∈ wsX80, w ∈ wsX8_stolen := fun _ h => List.mem_cons_of_mem _ (List.mem_append_right _ h)
theorem lkX8_stolen_0 : Cond.fieldLink RX8 104 "ServiceGameModel" "teams" "I" ∈ wsX8_stolen := by decide +kernel
theorem lkX8_stolen_1 : Cond.fieldLink RX8 98 "ServiceGameModel" "pointsOff" "[I" ∈ wsX8_stolen := by decide +kernel
theorem lkX8_stolen_2 : Cond.fieldLink RX8 95 "ServiceGameModel" "pointsStolen" "[I" ∈ wsX8_stolen := by decide +kernel
theorem lkX8_stolen_3 : Cond.fieldLink RX8 101 "ServiceGameModel" "flags" "[I" ∈ wsX8_stolen := by decide +kernel
def fX8_stolen_46b (fu : Nat)  (k46 : hs_T → Nat → Int32 → Int32 → Int32 → Int32 → Int32 → Option (Unit × hs_T)) (σ : hs_T) (x0 : Nat) (x1 : Int32) (x2 : Int32) (x3 : Int32) (x4 : Int32) (x5 : Int32) : Option (Unit × hs_T) :=
 (hs_gI σ 10 x0 0).bind fun v5 =>
 if v5 ≤ x5 then
 ((hs_gN σ 10 x0 41).bind fun n8 =>
 (hs_ld σ 11 n8 (x2 / 3)).bind fun v9 =>
 (hs_st σ 11 n8 (x2 / 3) (v9 + (4 * x4))).bind fun σ11 =>
 some ((), σ11))
 else
 ((hs_ck σ 10 x0).bind fun _ =>
 hs_b2 (fX8_isHanded fu σ x0 x1 x2 x5 x3) fun v16 σ14 =>
 if v16 = 0 then
 (k46 σ14 x0 x1 x2 x3 x4 (x5 + 1))
 else
 ((hs_gN σ14 10 x0 40).bind fun n19 =>
 (hs_ld σ14 11 n19 x5).bind fun v20 =>
 (hs_nz x4).bind fun _ =>
 (hs_st σ14 11 n19 x5 (v20 + (60 / x4))).bind fun σ23 =>
 (hs_gN σ23 10 x0 42).bind fun n26 =>
 (hs_ld σ23 11 n26 x5).bind fun v27 =>
 (hs_st σ23 11 n26 x5 (v27 + 1)).bind fun σ29 =>
 k46 σ29 x0 x1 x2 x3 x4 (x5 + 1)))
def fX8_stolen_46 (fu : Nat)  (σ : hs_T) (x0 : Nat) (x1 : Int32) (x2 : Int32) (x3 : Int32) (x4 : Int32) (x5 : Int32) : Option (Unit × hs_T) :=
   hs_lp (fun (k : hs_T × Nat × Int32 × Int32 × Int32 × Int32 × Int32 → Option (Unit × hs_T)) (a : hs_T × Nat × Int32 × Int32 × Int32 × Int32 × Int32) => fX8_stolen_46b fu  (fun σ x0 x1 x2 x3 x4 x5 => k (σ, x0, x1, x2, x3, x4, x5)) a.1 a.2.1 a.2.2.1 a.2.2.2.1 a.2.2.2.2.1 a.2.2.2.2.2.1 a.2.2.2.2.2.2) fu (σ, x0, x1, x2, x3, x4, x5)
def fX8_stolen_6b (fu : Nat)  (k6 : hs_T → Nat → Int32 → Int32 → Int32 → Int32 → Int32 → Option (Unit × hs_T)) (σ : hs_T) (x0 : Nat) (x1 : Int32) (x2 : Int32) (x3 : Int32) (x4 : Int32) (x5 : Int32) : Option (Unit × hs_T) :=
 (hs_gI σ 10 x0 0).bind fun v2 =>
 if v2 ≤ x5 then
 (fX8_stolen_46 fu σ x0 x1 x2 x3 x4 0)
 else
 ((hs_ck σ 10 x0).bind fun _ =>
 hs_b2 (fX8_isHanded fu σ x0 x1 x2 x5 x3) fun v34 σ32 =>
 if v34 = 0 then
 (k6 σ32 x0 x1 x2 x3 (x4 + 0) (x5 + 1))
 else
 (k6 σ32 x0 x1 x2 x3 (x4 + 1) (x5 + 1)))
def fX8_stolen_6 (fu : Nat)  (σ : hs_T) (x0 : Nat) (x1 : Int32) (x2 : Int32) (x3 : Int32) (x4 : Int32) (x5 : Int32) : Option (Unit × hs_T) :=
   hs_lp (fun (k : hs_T × Nat × Int32 × Int32 × Int32 × Int32 × Int32 → Option (Unit × hs_T)) (a : hs_T × Nat × Int32 × Int32 × Int32 × Int32 × Int32) => fX8_stolen_6b fu  (fun σ x0 x1 x2 x3 x4 x5 => k (σ, x0, x1, x2, x3, x4, x5)) a.1 a.2.1 a.2.2.1 a.2.2.2.1 a.2.2.2.2.1 a.2.2.2.2.2.1 a.2.2.2.2.2.2) fu (σ, x0, x1, x2, x3, x4, x5)
def fX8_stolen (fu : Nat) (σ : hs_T) (o : Nat) (a1 : Int32) (a2 : Int32) (a3 : Int32) : Option (Unit × hs_T) :=
 fX8_stolen_6 fu σ o a1 a2 a3 0 0
section SX8_stolen
variable {p : Program} {l : Launch} {e : Env} {s : State} {m : MethodId} {args : Array Value} {below : List Frame} {meth : Method} {c : Code} {X : hs_X} {ad : Nat → Nat} {A : Nat → Prop} {r : Unit} {τ : hs_T}
set_option maxRecDepth 100000 in
set_option maxHeartbeats 4000000 in
theorem wX8_stolen_46b (fu : Nat) (C : hs_Cx p s m args meth c X A yX8_stolen cX8_stolen 6 none wsX8_stolen) (hem : ad hs_em = X.2.2.1.2.2.2)  (k46 : hs_T → Nat → Int32 → Int32 → Int32 → Int32 → Int32 → Option (Unit × hs_T)) (hk46 : ∀ (σ : hs_T) (x0 : Nat) (x1 : Int32) (x2 : Int32) (x3 : Int32) (x4 : Int32) (x5 : Int32) (H : Heap) (locs : List Loc) (ls : Array Slot), k46 σ x0 x1 x2 x3 x4 x5 = some (r, τ) → hs_H X.1 X.2.1 ad A σ H → va_S A s.heap H locs → lv_has ls 6 [(0, .ref (ad x0)), (1, .int x1), (2, .int x2), (3, .int x3), (4, .int x4), (5, .int x5)] → W p l e rmX8_stolen s m args below meth c H locs 0 0 (MQ below (hs_Q0 hs_tvv X ad A r τ) args s 0 0 A) (F0 m 46 ls [])) {H : Heap} {locs : List Loc} {ls : Array Slot} (σ : hs_T) (x0 : Nat) (x1 : Int32) (x2 : Int32) (x3 : Int32) (x4 : Int32) (x5 : Int32) (hf : fX8_stolen_46b fu  k46 σ x0 x1 x2 x3 x4 x5 = some (r, τ)) (hB : hs_H X.1 X.2.1 ad A σ H) (hS : va_S A s.heap H locs) (hl : lv_has ls 6 [(0, .ref (ad x0)), (1, .int x1), (2, .int x2), (3, .int x3), (4, .int x4), (5, .int x5)]) : W p l e rmX8_stolen s m args below meth c H locs 0 0 (MQ below (hs_Q0 hs_tvv X ad A r τ) args s 0 0 A) (F0 m 46 ls []) := by
  obtain ⟨hx, hb, hml, hr, hts, hown, hlk, hnm, hV, hA0, hA⟩ := id C
  have hown : s.vm.findClass RX8 = some m.cls := hown
  have hK := hV.1
  have hNw := hV.2.1
  unfold fX8_stolen_46b at hf
  refine lv_iload hx hb dX8_stolen_46 (lv_at hl 5 rfl) ?_
  refine lv_aload_n hx hb dX8_stolen_48 rfl (lv_at hl 0 rfl) ?_
  obtain ⟨v5, h4, hf⟩ := hs_bi hf
  refine x_getI hx hb hts inX8_stolen_X8 hown hK hB (by decide) rfl (k := 0) (by decide) rfl h4 (hts _ lkX8_stolen_0) (fun _ h9 => h9) dX8_stolen_49 ?_
  refine lv_icmp_ge (tgt := 102) hx hb dX8_stolen_52 (by decide) (fun h6 => ?_) (fun h6 => ?_)
  · have hf := hs_tt h6 hf
    refine lv_aload_n hx hb dX8_stolen_102 rfl (lv_at hl 0 rfl) ?_
    obtain ⟨n8, h7, hf⟩ := hs_bi hf
    refine x_getN hx hb hts inX8_stolen_X8 hown hK hB (by decide) rfl (k := 41) (by decide) rfl h7 (hts _ lkX8_stolen_1) (fun _ h9 => h9) dX8_stolen_103 ?_
    refine lv_iload_n hx hb dX8_stolen_106 rfl (lv_at hl 2 rfl) ?_
    refine lv_iconst (v := 3) hx hb dX8_stolen_107 (by decide) ?_
    refine lv_idiv hx hb dX8_stolen_108 (by decide) ?_
    refine lv_dup2_11 hx hb dX8_stolen_109 rfl rfl ?_
    obtain ⟨v9, h10, hf⟩ := hs_bi hf
    refine x_iald hx hb hK hB h10 dX8_stolen_110 ?_
    refine lv_iconst (v := 4) hx hb dX8_stolen_111 (by decide) ?_
    refine lv_iload hx hb dX8_stolen_112 (lv_at hl 4 rfl) ?_
    refine lv_imul hx hb dX8_stolen_114 ?_
    refine lv_iadd hx hb dX8_stolen_115 ?_
    obtain ⟨σ11, h12, hf⟩ := hs_bi hf
    refine x_iast hx hb hK hB hS h12 dX8_stolen_116 (fun H locs hB hS => ?_)
    obtain ⟨rfl, rfl⟩ := hs_ri hf
    exact hs_vret hx hb hr hlk hB hS dX8_stolen_117
  · have hf := hs_ff h6 hf
    refine lv_aload_n hx hb dX8_stolen_55 rfl (lv_at hl 0 rfl) ?_
    refine lv_iload_n hx hb dX8_stolen_56 rfl (lv_at hl 1 rfl) ?_
    refine lv_iload_n hx hb dX8_stolen_57 rfl (lv_at hl 2 rfl) ?_
    refine lv_iload hx hb dX8_stolen_58 (lv_at hl 5 rfl) ?_
    refine lv_iload_n hx hb dX8_stolen_60 rfl (lv_at hl 3 rfl) ?_
    obtain ⟨_, h15, hf⟩ := hs_bi hf
    obtain ⟨v16, σ14, h13, hf⟩ := hs_b2i hf
    refine hs_call0 (va_runV (As := [.int x1, .int x2, .int x5, .int x3]) (rest := []) ⟨hx, hb, hml, hown, hts⟩ (ctX8_isHanded l fu σ x0 x1 x2 x5 x3 X ad H.size _ _ h13) (cwV 4 hts gX8_stolen_X8_isHanded rfl rfl rfl (by decide +kernel) ⟨Nat.le_of_ble_eq_true rfl, Nat.le_of_ble_eq_true rfl⟩) (hs_preV (hs_recv hK hB (hs_ck_i h15) (by decide) rfl) hV hB hS hA0 hA hem) rfl rfl hl.1 rfl (lv_room (Nat.le_of_ble_eq_true rfl)) dX8_stolen_61 ⟨Nat.le_of_ble_eq_true rfl, Nat.le_of_ble_eq_true rfl⟩) hB hS hA rfl (fun H locs hB hS => ?_)
    refine lv_if_ne (tgt := 70) hx hb dX8_stolen_64 (by decide) (fun h17 => ?_) (fun h17 => ?_)
    · have hf := hs_ff h17 hf
      refine lv_aload_n hx hb dX8_stolen_70 rfl (lv_at hl 0 rfl) ?_
      obtain ⟨n19, h18, hf⟩ := hs_bi hf
      refine x_getN hx hb hts inX8_stolen_X8 hown hK hB (by decide) rfl (k := 40) (by decide) rfl h18 (hts _ lkX8_stolen_2) (fun _ h9 => h9) dX8_stolen_71 ?_
      refine lv_iload hx hb dX8_stolen_74 (lv_at hl 5 rfl) ?_
      refine lv_dup2_11 hx hb dX8_stolen_76 rfl rfl ?_
      obtain ⟨v20, h21, hf⟩ := hs_bi hf
      refine x_iald hx hb hK hB h21 dX8_stolen_77 ?_
      refine lv_bipush (v := 60) hx hb dX8_stolen_78 (by decide) ?_
      refine lv_iload hx hb dX8_stolen_80 (lv_at hl 4 rfl) ?_
      obtain ⟨_, h22, hf⟩ := hs_bi hf
      refine lv_idiv hx hb dX8_stolen_82 (hs_nz_i h22) ?_
      refine lv_iadd hx hb dX8_stolen_83 ?_
      obtain ⟨σ23, h24, hf⟩ := hs_bi hf
      refine x_iast hx hb hK hB hS h24 dX8_stolen_84 (fun H locs hB hS => ?_)
      refine lv_aload_n hx hb dX8_stolen_85 rfl (lv_at hl 0 rfl) ?_
      obtain ⟨n26, h25, hf⟩ := hs_bi hf
      refine x_getN hx hb hts inX8_stolen_X8 hown hK hB (by decide) rfl (k := 42) (by decide) rfl h25 (hts _ lkX8_stolen_3) (fun _ h9 => h9) dX8_stolen_86 ?_
      refine lv_iload hx hb dX8_stolen_89 (lv_at hl 5 rfl) ?_
      refine lv_dup2_11 hx hb dX8_stolen_91 rfl rfl ?_
      obtain ⟨v27, h28, hf⟩ := hs_bi hf
      refine x_iald hx hb hK hB h28 dX8_stolen_92 ?_
      refine lv_iconst (v := 1) hx hb dX8_stolen_93 (by decide) ?_
      refine lv_iadd hx hb dX8_stolen_94 ?_
      obtain ⟨σ29, h30, hf⟩ := hs_bi hf
      refine x_iast hx hb hK hB hS h30 dX8_stolen_95 (fun H locs hB hS => ?_)
      refine lv_iinc (v := (x5 + 1)) (lv' := [(5, .int (x5 + 1)), (0, .ref (ad x0)), (1, .int x1), (2, .int x2), (3, .int x3), (4, .int x4)]) hx hb dX8_stolen_96 hl (k := 5) rfl rfl (by decide) rfl (fun ls hl => ?_)
      refine lv_goto (tgt := 46) hx hb dX8_stolen_99 (by decide) ?_
      exact hk46 σ29 x0 x1 x2 x3 x4 (x5 + 1) _ _ _ hf hB hS (lv_sub hl [1, 2, 3, 4, 5, 0] rfl)
    · have hf := hs_tt h17 hf
      refine lv_goto (tgt := 96) hx hb dX8_stolen_67 (by decide) ?_
      refine lv_iinc (v := (x5 + 1)) (lv' := [(5, .int (x5 + 1)), (0, .ref (ad x0)), (1, .int x1), (2, .int x2), (3, .int x3), (4, .int x4)]) hx hb dX8_stolen_96 hl (k := 5) rfl rfl (by decide) rfl (fun ls hl => ?_)
      refine lv_goto (tgt := 46) hx hb dX8_stolen_99 (by decide) ?_
      exact hk46 σ14 x0 x1 x2 x3 x4 (x5 + 1) _ _ _ hf hB hS (lv_sub hl [1, 2, 3, 4, 5, 0] rfl)
set_option maxRecDepth 100000 in
set_option maxHeartbeats 4000000 in
theorem wX8_stolen_46 (fu : Nat) (C : hs_Cx p s m args meth c X A yX8_stolen cX8_stolen 6 none wsX8_stolen) (hem : ad hs_em = X.2.2.1.2.2.2)  {H : Heap} {locs : List Loc} {ls : Array Slot} (σ : hs_T) (x0 : Nat) (x1 : Int32) (x2 : Int32) (x3 : Int32) (x4 : Int32) (x5 : Int32) (hf : fX8_stolen_46 fu  σ x0 x1 x2 x3 x4 x5 = some (r, τ)) (hB : hs_H X.1 X.2.1 ad A σ H) (hS : va_S A s.heap H locs) (hl : lv_has ls 6 [(0, .ref (ad x0)), (1, .int x1), (2, .int x2), (3, .int x3), (4, .int x4), (5, .int x5)]) : W p l e rmX8_stolen s m args below meth c H locs 0 0 (MQ below (hs_Q0 hs_tvv X ad A r τ) args s 0 0 A) (F0 m 46 ls []) := by
  unfold fX8_stolen_46 at hf
  exact hs_lp_i (P := fun a => ∀ (H : Heap) (locs : List Loc) (ls : Array Slot), hs_H X.1 X.2.1 ad A a.1 H → va_S A s.heap H locs → lv_has ls 6 [(0, .ref (ad a.2.1)), (1, .int a.2.2.1), (2, .int a.2.2.2.1), (3, .int a.2.2.2.2.1), (4, .int a.2.2.2.2.2.1), (5, .int a.2.2.2.2.2.2)] → W p l e rmX8_stolen s m args below meth c H locs 0 0 (MQ below (hs_Q0 hs_tvv X ad A r τ) args s 0 0 A) (F0 m 46 ls [])) (fun k a hk hf H locs ls hB hS hl => wX8_stolen_46b fu C hem  _ (fun σ x0 x1 x2 x3 x4 x5 H locs ls hf hB hS hl => hk (σ, x0, x1, x2, x3, x4, x5) hf H locs ls hB hS hl) a.1 a.2.1 a.2.2.1 a.2.2.2.1 a.2.2.2.2.1 a.2.2.2.2.2.1 a.2.2.2.2.2.2 hf hB hS hl) fu (σ, x0, x1, x2, x3, x4, x5) hf H locs ls hB hS hl
set_option maxRecDepth 100000 in
set_option maxHeartbeats 4000000 in
theorem wX8_stolen_6b (fu : Nat) (C : hs_Cx p s m args meth c X A yX8_stolen cX8_stolen 6 none wsX8_stolen) (hem : ad hs_em = X.2.2.1.2.2.2)  (k6 : hs_T → Nat → Int32 → Int32 → Int32 → Int32 → Int32 → Option (Unit × hs_T)) (hk6 : ∀ (σ : hs_T) (x0 : Nat) (x1 : Int32) (x2 : Int32) (x3 : Int32) (x4 : Int32) (x5 : Int32) (H : Heap) (locs : List Loc) (ls : Array Slot), k6 σ x0 x1 x2 x3 x4 x5 = some (r, τ) → hs_H X.1 X.2.1 ad A σ H → va_S A s.heap H locs → lv_has ls 6 [(0, .ref (ad x0)), (1, .int x1), (2, .int x2), (3, .int x3), (4, .int x4), (5, .int x5)] → W p l e rmX8_stolen s m args below meth c H locs 0 0 (MQ below (hs_Q0 hs_tvv X ad A r τ) args s 0 0 A) (F0 m 6 ls [])) {H : Heap} {locs : List Loc} {ls : Array Slot} (σ : hs_T) (x0 : Nat) (x1 : Int32) (x2 : Int32) (x3 : Int32) (x4 : Int32) (x5 : Int32) (hf : fX8_stolen_6b fu  k6 σ x0 x1 x2 x3 x4 x5 = some (r, τ)) (hB : hs_H X.1 X.2.1 ad A σ H) (hS : va_S A s.heap H locs) (hl : lv_has ls 6 [(0, .ref (ad x0)), (1, .int x1), (2, .int x2), (3, .int x3), (4, .int x4), (5, .int x5)]) : W p l e rmX8_stolen s m args below meth c H locs 0 0 (MQ below (hs_Q0 hs_tvv X ad A r τ) args s 0 0 A) (F0 m 6 ls []) := by
  obtain ⟨hx, hb, hml, hr, hts, hown, hlk, hnm, hV, hA0, hA⟩ := id C
  have hown : s.vm.findClass RX8 = some m.cls := hown
  have hK := hV.1
  have hNw := hV.2.1
  unfold fX8_stolen_6b at hf
  refine lv_iload hx hb dX8_stolen_6 (lv_at hl 5 rfl) ?_
  refine lv_aload_n hx hb dX8_stolen_8 rfl (lv_at hl 0 rfl) ?_
  obtain ⟨v2, h1, hf⟩ := hs_bi hf
  refine x_getI hx hb hts inX8_stolen_X8 hown hK hB (by decide) rfl (k := 0) (by decide) rfl h1 (hts _ lkX8_stolen_0) (fun _ h9 => h9) dX8_stolen_9 ?_
  refine lv_icmp_ge (tgt := 43) hx hb dX8_stolen_12 (by decide) (fun h3 => ?_) (fun h3 => ?_)
  · have hf := hs_tt h3 hf
    refine lv_iconst (v := 0) hx hb dX8_stolen_43 (by decide) ?_
    refine lv_istore (lv' := [(5, .int 0), (0, .ref (ad x0)), (1, .int x1), (2, .int x2), (3, .int x3), (4, .int x4)]) hx hb dX8_stolen_44 hl (by decide) rfl (fun ls hl => ?_)
    exact wX8_stolen_46 fu C hem σ x0 x1 x2 x3 x4 0 hf hB hS (lv_sub hl [1, 2, 3, 4, 5, 0] rfl)
  · have hf := hs_ff h3 hf
    refine lv_iload hx hb dX8_stolen_15 (lv_at hl 4 rfl) ?_
    refine lv_aload_n hx hb dX8_stolen_17 rfl (lv_at hl 0 rfl) ?_
    refine lv_iload_n hx hb dX8_stolen_18 rfl (lv_at hl 1 rfl) ?_
    refine lv_iload_n hx hb dX8_stolen_19 rfl (lv_at hl 2 rfl) ?_
    refine lv_iload hx hb dX8_stolen_20 (lv_at hl 5 rfl) ?_
    refine lv_iload_n hx hb dX8_stolen_22 rfl (lv_at hl 3 rfl) ?_
    obtain ⟨_, h33, hf⟩ := hs_bi hf
    obtain ⟨v34, σ32, h31, hf⟩ := hs_b2i hf
    refine hs_call0 (va_runV (As := [.int x1, .int x2, .int x5, .int x3]) (rest := [.int x4]) ⟨hx, hb, hml, hown, hts⟩ (ctX8_isHanded l fu σ x0 x1 x2 x5 x3 X ad H.size _ _ h31) (cwV 4 hts gX8_stolen_X8_isHanded rfl rfl rfl (by decide +kernel) ⟨Nat.le_of_ble_eq_true rfl, Nat.le_of_ble_eq_true rfl⟩) (hs_preV (hs_recv hK hB (hs_ck_i h33) (by decide) rfl) hV hB hS hA0 hA hem) rfl rfl hl.1 rfl (lv_room (Nat.le_of_ble_eq_true rfl)) dX8_stolen_23 ⟨Nat.le_of_ble_eq_true rfl, Nat.le_of_ble_eq_true rfl⟩) hB hS hA rfl (fun H locs hB hS => ?_)
    refine lv_if_eq (tgt := 33) hx hb dX8_stolen_26 (by decide) (fun h35 => ?_) (fun h35 => ?_)
    · have hf := hs_tt h35 hf
      refine lv_iconst (v := 0) hx hb dX8_stolen_33 (by decide) ?_
      refine lv_iadd hx hb dX8_stolen_34 ?_
      refine lv_istore (lv' := [(4, .int (x4 + 0)), (0, .ref (ad x0)), (1, .int x1), (2, .int x2), (3, .int x3), (5, .int x5)]) hx hb dX8_stolen_35 hl (by decide) rfl (fun ls hl => ?_)
      refine lv_iinc (v := (x5 + 1)) (lv' := [(5, .int (x5 + 1)), (4, .int (x4 + 0)), (0, .ref (ad x0)), (1, .int x1), (2, .int x2), (3, .int x3)]) hx hb dX8_stolen_37 hl (k := 5) rfl rfl (by decide) rfl (fun ls hl => ?_)
      refine lv_goto (tgt := 6) hx hb dX8_stolen_40 (by decide) ?_
      exact hk6 σ32 x0 x1 x2 x3 (x4 + 0) (x5 + 1) _ _ _ hf hB hS (lv_sub hl [2, 3, 4, 5, 1, 0] rfl)
    · have hf := hs_ff h35 hf
      refine lv_iconst (v := 1) hx hb dX8_stolen_29 (by decide) ?_
      refine lv_goto (tgt := 34) hx hb dX8_stolen_30 (by decide) ?_
      refine lv_iadd hx hb dX8_stolen_34 ?_
      refine lv_istore (lv' := [(4, .int (x4 + 1)), (0, .ref (ad x0)), (1, .int x1), (2, .int x2), (3, .int x3), (5, .int x5)]) hx hb dX8_stolen_35 hl (by decide) rfl (fun ls hl => ?_)
      refine lv_iinc (v := (x5 + 1)) (lv' := [(5, .int (x5 + 1)), (4, .int (x4 + 1)), (0, .ref (ad x0)), (1, .int x1), (2, .int x2), (3, .int x3)]) hx hb dX8_stolen_37 hl (k := 5) rfl rfl (by decide) rfl (fun ls hl => ?_)
      refine lv_goto (tgt := 6) hx hb dX8_stolen_40 (by decide) ?_
      exact hk6 σ32 x0 x1 x2 x3 (x4 + 1) (x5 + 1) _ _ _ hf hB hS (lv_sub hl [2, 3, 4, 5, 1, 0] rfl)
set_option maxRecDepth 100000 in
set_option maxHeartbeats 4000000 in
theorem wX8_stolen_6 (fu : Nat) (C : hs_Cx p s m args meth c X A yX8_stolen cX8_stolen 6 none wsX8_stolen) (hem : ad hs_em = X.2.2.1.2.2.2)  {H : Heap} {locs : List Loc} {ls : Array Slot} (σ : hs_T) (x0 : Nat) (x1 : Int32) (x2 : Int32) (x3 : Int32) (x4 : Int32) (x5 : Int32) (hf : fX8_stolen_6 fu  σ x0 x1 x2 x3 x4 x5 = some (r, τ)) (hB : hs_H X.1 X.2.1 ad A σ H) (hS : va_S A s.heap H locs) (hl : lv_has ls 6 [(0, .ref (ad x0)), (1, .int x1), (2, .int x2), (3, .int x3), (4, .int x4), (5, .int x5)]) : W p l e rmX8_stolen s m args below meth c H locs 0 0 (MQ below (hs_Q0 hs_tvv X ad A r τ) args s 0 0 A) (F0 m 6 ls []) := by
  unfold fX8_stolen_6 at hf
  exact hs_lp_i (P := fun a => ∀ (H : Heap) (locs : List Loc) (ls : Array Slot), hs_H X.1 X.2.1 ad A a.1 H → va_S A s.heap H locs → lv_has ls 6 [(0, .ref (ad a.2.1)), (1, .int a.2.2.1), (2, .int a.2.2.2.1), (3, .int a.2.2.2.2.1), (4, .int a.2.2.2.2.2.1), (5, .int a.2.2.2.2.2.2)] → W p l e rmX8_stolen s m args below meth c H locs 0 0 (MQ below (hs_Q0 hs_tvv X ad A r τ) args s 0 0 A) (F0 m 6 ls [])) (fun k a hk hf H locs ls hB hS hl => wX8_stolen_6b fu C hem  _ (fun σ x0 x1 x2 x3 x4 x5 H locs ls hf hB hS hl => hk (σ, x0, x1, x2, x3, x4, x5) hf H locs ls hB hS hl) a.1 a.2.1 a.2.2.1 a.2.2.2.1 a.2.2.2.2.1 a.2.2.2.2.2.1 a.2.2.2.2.2.2 hf hB hS hl) fu (σ, x0, x1, x2, x3, x4, x5) hf H locs ls hB hS hl
set_option maxRecDepth 100000 in
set_option maxHeartbeats 4000000 in
theorem wX8_stolen_e (fu : Nat) (C : hs_Cx p s m args meth c X A yX8_stolen cX8_stolen 6 none wsX8_stolen) (hem : ad hs_em = X.2.2.1.2.2.2) {H : Heap} {locs : List Loc} {ls : Array Slot} (σ : hs_T) (o : Nat) (a1 : Int32) (a2 : Int32) (a3 : Int32) (hf : fX8_stolen fu σ o a1 a2 a3 = some (r, τ)) (hB : hs_H X.1 X.2.1 ad A σ H) (hS : va_S A s.heap H locs) (hl : lv_has ls 6 [(0, .ref (ad o)), (1, .int a1), (2, .int a2), (3, .int a3)]) : W p l e rmX8_stolen s m args below meth c H locs 0 0 (MQ below (hs_Q0 hs_tvv X ad A r τ) args s 0 0 A) (F0 m 0 ls []) := by
  obtain ⟨hx, hb, hml, hr, hts, hown, hlk, hnm, hV, hA0, hA⟩ := id C
  have hown : s.vm.findClass RX8 = some m.cls := hown
  have hK := hV.1
  have hNw := hV.2.1
  unfold fX8_stolen at hf
  refine lv_iconst (v := 0) hx hb dX8_stolen_0 (by decide) ?_
  refine lv_istore (lv' := [(4, .int 0), (0, .ref (ad o)), (1, .int a1), (2, .int a2), (3, .int a3)]) hx hb dX8_stolen_1 hl (by decide) rfl (fun ls hl => ?_)
  refine lv_iconst (v := 0) hx hb dX8_stolen_3 (by decide) ?_
  refine lv_istore (lv' := [(5, .int 0), (4, .int 0), (0, .ref (ad o)), (1, .int a1), (2, .int a2), (3, .int a3)]) hx hb dX8_stolen_4 hl (by decide) rfl (fun ls hl => ?_)
  exact wX8_stolen_6 fu C hem σ o a1 a2 a3 0 0 hf hB hS (lv_sub hl [2, 3, 4, 5, 1, 0] rfl)
end SX8_stolen
set_option maxRecDepth 100000 in
theorem ctX8_stolen (l : Launch) (fu : Nat) (σ : hs_T) (o : Nat) (a1 : Int32) (a2 : Int32) (a3 : Int32) : hs_C0 hs_tvv l yX8_stolen wsX8_stolen rmX8_stolen (fun ad => [.ref (ad o), .int a1, .int a2, .int a3]) σ (fX8_stolen fu σ o a1 a2 a3) := by
  intro X ad sz r τ hf
  refine hs_enter (cc := cX8_stolen) (maxL := 6) (ret := none) (by decide) rfl (Nat.le_of_ble_eq_true rfl) ?_
  intro p e s m below meth c ls C hl hem hB hS hsz
  exact wX8_stolen_e fu C hem σ o a1 a2 a3 hf hB hS hl
/-! ServiceGameModel.findPoints(I)V -/
abbrev rmX8_findPoints : Room := { frames := 3, cells := 0, slots := 0, locals := 73 }
theorem inX8_findPoints_X8 : ∀ w ∈ wsX80, w ∈ wsX8_findPoints := fun _ h => List.mem_cons_of_mem _ (List.mem_append_right _ h)
theorem lkX8_findPoints_0 : Cond.fieldLink RX8 118 "ServiceGameModel" "rounds" "I" ∈ wsX8_findPoints := by decide +kernel
theorem lkX8_findPoints_1 : Cond.fieldLink RX8 104 "ServiceGameModel" "teams" "I" ∈ wsX8_findPoints := by decide +kernel
theorem lkX8_findPoints_2 : Cond.fieldLink RX8 71 "ServiceGameModel" "isUp" "[Z" ∈ wsX8_findPoints := by decide +kernel
theorem lkX8_findPoints_3 : Cond.fieldLink RX8 92 "ServiceGameModel" "pointsUp" "[I" ∈ wsX8_findPoints := by decide +kernel
theorem lkX8_findPoints_4 : Cond.fieldLink RX8 95 "ServiceGameModel" "pointsStolen" "[I" ∈ wsX8_findPoints := by decide +kernel
theorem lkX8_findPoints_5 : Cond.fieldLink RX8 98 "ServiceGameModel" "pointsOff" "[I" ∈ wsX8_findPoints := by decide +kernel
theorem lkX8_findPoints_6 : Cond.fieldLink RX8 101 "ServiceGameModel" "flags" "[I" ∈ wsX8_findPoints := by decide +kernel
def fX8_findPoints_95 (fu : Nat) (k43 : hs_T → Nat → Int32 → Int32 → Option (Unit × hs_T)) (k53 : hs_T → Nat → Int32 → Int32 → Int32 → Option (Unit × hs_T)) (σ : hs_T) (x0 : Nat) (x1 : Int32) (x2 : Int32) (x3 : Int32) : Option (Unit × hs_T) :=
 (hs_ck σ 10 x0).bind fun _ =>
 hs_b2 (fX8_stolen fu σ x0 x2 x3 x1) fun _ σ10 =>
 k53 σ10 x0 x1 x2 (x3 + 1)
def fX8_findPoints_53b (fu : Nat) (k43 : hs_T → Nat → Int32 → Int32 → Option (Unit × hs_T)) (k53 : hs_T → Nat → Int32 → Int32 → Int32 → Option (Unit × hs_T)) (σ : hs_T) (x0 : Nat) (x1 : Int32) (x2 : Int32) (x3 : Int32) : Option (Unit × hs_T) :=
 (hs_gI σ 10 x0 0).bind fun v6 =>
 if (3 * v6) ≤ x3 then
 (k43 σ x0 x1 (x2 + 1))
 else
 (if x1 ≤ x2 then
 (fX8_findPoints_95 fu k43 k53 σ x0 x1 x2 x3)
 else
 ((hs_gN σ 10 x0 31).bind fun n13 =>
 (hs_ld σ 12 n13 ((15 * x2) + x3)).bind fun v14 =>
 if v14 = 0 then
 (fX8_findPoints_95 fu k43 k53 σ x0 x1 x2 x3)
 else
 ((hs_gN σ 10 x0 39).bind fun n18 =>
 (hs_ld σ 11 n18 (x3 / 3)).bind fun v19 =>
 (hs_st σ 11 n18 (x3 / 3) (v19 + 10)).bind fun σ21 =>
 fX8_findPoints_95 fu k43 k53 σ21 x0 x1 x2 x3)))
def fX8_findPoints_53 (fu : Nat) (k43 : hs_T → Nat → Int32 → Int32 → Option (Unit × hs_T)) (σ : hs_T) (x0 : Nat) (x1 : Int32) (x2 : Int32) (x3 : Int32) : Option (Unit × hs_T) :=
   hs_lp (fun (k : hs_T × Nat × Int32 × Int32 × Int32 → Option (Unit × hs_T)) (a : hs_T × Nat × Int32 × Int32 × Int32) => fX8_findPoints_53b fu k43 (fun σ x0 x1 x2 x3 => k (σ, x0, x1, x2, x3)) a.1 a.2.1 a.2.2.1 a.2.2.2.1 a.2.2.2.2) fu (σ, x0, x1, x2, x3)
def fX8_findPoints_43b (fu : Nat)  (k43 : hs_T → Nat → Int32 → Int32 → Option (Unit × hs_T)) (σ : hs_T) (x0 : Nat) (x1 : Int32) (x2 : Int32) : Option (Unit × hs_T) :=
 (hs_gI σ 10 x0 1).bind fun v3 =>
 if v3 ≤ x2 then
 (some ((), σ))
 else
 (fX8_findPoints_53 fu k43 σ x0 x1 x2 0)
def fX8_findPoints_43 (fu : Nat)  (σ : hs_T) (x0 : Nat) (x1 : Int32) (x2 : Int32) : Option (Unit × hs_T) :=
   hs_lp (fun (k : hs_T × Nat × Int32 × Int32 → Option (Unit × hs_T)) (a : hs_T × Nat × Int32 × Int32) => fX8_findPoints_43b fu  (fun σ x0 x1 x2 => k (σ, x0, x1, x2)) a.1 a.2.1 a.2.2.1 a.2.2.2) fu (σ, x0, x1, x2)
def fX8_findPoints_2b (fu : Nat)  (k2 : hs_T → Nat → Int32 → Int32 → Option (Unit × hs_T)) (σ : hs_T) (x0 : Nat) (x1 : Int32) (x2 : Int32) : Option (Unit × hs_T) :=
 if 5 ≤ x2 then
 (fX8_findPoints_43 fu σ x0 x1 0)
 else
 ((hs_gN σ 10 x0 39).bind fun n24 =>
 (hs_st σ 11 n24 x2 0).bind fun σ25 =>
 (hs_gN σ25 10 x0 40).bind fun n28 =>
 (hs_st σ25 11 n28 x2 0).bind fun σ29 =>
 (hs_gN σ29 10 x0 41).bind fun n32 =>
 (hs_st σ29 11 n32 x2 0).bind fun σ33 =>
 (hs_gN σ33 10 x0 42).bind fun n36 =>
 (hs_st σ33 11 n36 x2 0).bind fun σ37 =>
 k2 σ37 x0 x1 (x2 + 1))
def fX8_findPoints_2 (fu : Nat)  (σ : hs_T) (x0 : Nat) (x1 : Int32) (x2 : Int32) : Option (Unit × hs_T) :=
   hs_lp (fun (k : hs_T × Nat × Int32 × Int32 → Option (Unit × hs_T)) (a : hs_T × Nat × Int32 × Int32) => fX8_findPoints_2b fu  (fun σ x0 x1 x2 => k (σ, x0, x1, x2)) a.1 a.2.1 a.2.2.1 a.2.2.2) fu (σ, x0, x1, x2)
def fX8_findPoints (fu : Nat) (σ : hs_T) (o : Nat) (a1 : Int32) : Option (Unit × hs_T) :=
 fX8_findPoints_2 fu σ o a1 0
section SX8_findPoints
variable {p : Program} {l : Launch} {e : Env} {s : State} {m : MethodId} {args : Array Value} {below : List Frame} {meth : Method} {c : Code} {X : hs_X} {ad : Nat → Nat} {A : Nat → Prop} {r : Unit} {τ : hs_T}
set_option maxRecDepth 100000 in
set_option maxHeartbeats 4000000 in
theorem wX8_findPoints_95 (fu : Nat) (C : hs_Cx p s m args meth c X A yX8_findPoints cX8_findPoints 4 none wsX8_findPoints) (hem : ad hs_em = X.2.2.1.2.2.2) (k43 : hs_T → Nat → Int32 → Int32 → Option (Unit × hs_T)) (hk43 : ∀ (σ : hs_T) (x0 : Nat) (x1 : Int32) (x2 : Int32) (H : Heap) (locs : List Loc) (ls : Array Slot), k43 σ x0 x1 x2 = some (r, τ) → hs_H X.1 X.2.1 ad A σ H → va_S A s.heap H locs → lv_has ls 4 [(0, .ref (ad x0)), (1, .int x1), (2, .int x2)] → W p l e rmX8_findPoints s m args below meth c H locs 0 0 (MQ below (hs_Q0 hs_tvv X ad A r τ) args s 0 0 A) (F0 m 43 ls [])) (k53 : hs_T → Nat → Int32 → Int32 → Int32 → Option (Unit × hs_T)) (hk53 : ∀ (σ : hs_T) (x0 : Nat) (x1 : Int32) (x2 : Int32) (x3 : Int32) (H : Heap) (locs : List Loc) (ls : Array Slot), k53 σ x0 x1 x2 x3 = some (r, τ) → hs_H X.1 X.2.1 ad A σ H → va_S A s.heap H locs → lv_has ls 4 [(0, .ref (ad x0)), (1, .int x1), (2, .int x2), (3, .int x3)] → W p l e rmX8_findPoints s m args below meth c H locs 0 0 (MQ below (hs_Q0 hs_tvv X ad A r τ) args s 0 0 A) (F0 m 53 ls [])) {H : Heap} {locs : List Loc} {ls : Array Slot} (σ : hs_T) (x0 : Nat) (x1 : Int32) (x2 : Int32) (x3 : Int32) (hf : fX8_findPoints_95 fu k43 k53 σ x0 x1 x2 x3 = some (r, τ)) (hB : hs_H X.1 X.2.1 ad A σ H) (hS : va_S A s.heap H locs) (hl : lv_has ls 4 [(0, .ref (ad x0)), (1, .int x1), (2, .int x2), (3, .int x3)]) : W p l e rmX8_findPoints s m args below meth c H locs 0 0 (MQ below (hs_Q0 hs_tvv X ad A r τ) args s 0 0 A) (F0 m 95 ls []) := by
  obtain ⟨hx, hb, hml, hr, hts, hown, hlk, hnm, hV, hA0, hA⟩ := id C
  have hown : s.vm.findClass RX8 = some m.cls := hown
  have hK := hV.1
  have hNw := hV.2.1
  unfold fX8_findPoints_95 at hf
  refine lv_aload_n hx hb dX8_findPoints_95 rfl (lv_at hl 0 rfl) ?_
  refine lv_iload_n hx hb dX8_findPoints_96 rfl (lv_at hl 2 rfl) ?_
  refine lv_iload_n hx hb dX8_findPoints_97 rfl (lv_at hl 3 rfl) ?_
  refine lv_iload_n hx hb dX8_findPoints_98 rfl (lv_at hl 1 rfl) ?_
  obtain ⟨_, h11, hf⟩ := hs_bi hf
  obtain ⟨_, σ10, h9, hf⟩ := hs_b2i hf
  refine hs_call0 (va_runV (As := [.int x2, .int x3, .int x1]) (rest := []) ⟨hx, hb, hml, hown, hts⟩ (ctX8_stolen l fu σ x0 x2 x3 x1 X ad H.size _ _ h9) (cwV 3 hts gX8_findPoints_X8_stolen rfl rfl rfl (by decide +kernel) ⟨Nat.le_of_ble_eq_true rfl, Nat.le_of_ble_eq_true rfl⟩) (hs_preV (hs_recv hK hB (hs_ck_i h11) (by decide) rfl) hV hB hS hA0 hA hem) rfl rfl hl.1 rfl (lv_room (Nat.le_of_ble_eq_true rfl)) dX8_findPoints_99 ⟨Nat.le_of_ble_eq_true rfl, Nat.le_of_ble_eq_true rfl⟩) hB hS hA rfl (fun H locs hB hS => ?_)
  refine lv_iinc (v := (x3 + 1)) (lv' := [(3, .int (x3 + 1)), (0, .ref (ad x0)), (1, .int x1), (2, .int x2)]) hx hb dX8_findPoints_102 hl (k := 3) rfl rfl (by decide) rfl (fun ls hl => ?_)
  refine lv_goto (tgt := 53) hx hb dX8_findPoints_105 (by decide) ?_
  exact hk53 σ10 x0 x1 x2 (x3 + 1) _ _ _ hf hB hS (lv_sub hl [1, 2, 3, 0] rfl)
set_option maxRecDepth 100000 in
set_option maxHeartbeats 4000000 in
theorem wX8_findPoints_53b (fu : Nat) (C : hs_Cx p s m args meth c X A yX8_findPoints cX8_findPoints 4 none wsX8_findPoints) (hem : ad hs_em = X.2.2.1.2.2.2) (k43 : hs_T → Nat → Int32 → Int32 → Option (Unit × hs_T)) (hk43 : ∀ (σ : hs_T) (x0 : Nat) (x1 : Int32) (x2 : Int32) (H : Heap) (locs : List Loc) (ls : Array Slot), k43 σ x0 x1 x2 = some (r, τ) → hs_H X.1 X.2.1 ad A σ H → va_S A s.heap H locs → lv_has ls 4 [(0, .ref (ad x0)), (1, .int x1), (2, .int x2)] → W p l e rmX8_findPoints s m args below meth c H locs 0 0 (MQ below (hs_Q0 hs_tvv X ad A r τ) args s 0 0 A) (F0 m 43 ls [])) (k53 : hs_T → Nat → Int32 → Int32 → Int32 → Option (Unit × hs_T)) (hk53 : ∀ (σ : hs_T) (x0 : Nat) (x1 : Int32) (x2 : Int32) (x3 : Int32) (H : Heap) (locs : List Loc) (ls : Array Slot), k53 σ x0 x1 x2 x3 = some (r, τ) → hs_H X.1 X.2.1 ad A σ H → va_S A s.heap H locs → lv_has ls 4 [(0, .ref (ad x0)), (1, .int x1), (2, .int x2), (3, .int x3)] → W p l e rmX8_findPoints s m args below meth c H locs 0 0 (MQ below (hs_Q0 hs_tvv X ad A r τ) args s 0 0 A) (F0 m 53 ls [])) {H : Heap} {locs : List Loc} {ls : Array Slot} (σ : hs_T) (x0 : Nat) (x1 : Int32) (x2 : Int32) (x3 : Int32) (hf : fX8_findPoints_53b fu k43 k53 σ x0 x1 x2 x3 = some (r, τ)) (hB : hs_H X.1 X.2.1 ad A σ H) (hS : va_S A s.heap H locs) (hl : lv_has ls 4 [(0, .ref (ad x0)), (1, .int x1), (2, .int x2), (3, .int x3)]) : W p l e rmX8_findPoints s m args below meth c H locs 0 0 (MQ below (hs_Q0 hs_tvv X ad A r τ) args s 0 0 A) (F0 m 53 ls []) := by
  obtain ⟨hx, hb, hml, hr, hts, hown, hlk, hnm, hV, hA0, hA⟩ := id C
  have hown : s.vm.findClass RX8 = some m.cls := hown
  have hK := hV.1
  have hNw := hV.2.1
  unfold fX8_findPoints_53b at hf
  refine lv_iload_n hx hb dX8_findPoints_53 rfl (lv_at hl 3 rfl) ?_
  refine lv_iconst (v := 3) hx hb dX8_findPoints_54 (by decide) ?_
  refine lv_aload_n hx hb dX8_findPoints_55 rfl (lv_at hl 0 rfl) ?_
  obtain ⟨v6, h5, hf⟩ := hs_bi hf
  refine x_getI hx hb hts inX8_findPoints_X8 hown hK hB (by decide) rfl (k := 0) (by decide) rfl h5 (hts _ lkX8_findPoints_1) (fun _ h9 => h9) dX8_findPoints_56 ?_
  refine lv_imul hx hb dX8_findPoints_59 ?_
  refine lv_icmp_ge (tgt := 108) hx hb dX8_findPoints_60 (by decide) (fun h7 => ?_) (fun h7 => ?_)
  · have hf := hs_tt h7 hf
    refine lv_iinc (v := (x2 + 1)) (lv' := [(2, .int (x2 + 1)), (0, .ref (ad x0)), (1, .int x1), (3, .int x3)]) hx hb dX8_findPoints_108 hl (k := 2) rfl rfl (by decide) rfl (fun ls hl => ?_)
    refine lv_goto (tgt := 43) hx hb dX8_findPoints_111 (by decide) ?_
    exact hk43 σ x0 x1 (x2 + 1) _ _ _ hf hB hS (lv_sub hl [1, 2, 0] rfl)
  · have hf := hs_ff h7 hf
    refine lv_iload_n hx hb dX8_findPoints_63 rfl (lv_at hl 2 rfl) ?_
    refine lv_iload_n hx hb dX8_findPoints_64 rfl (lv_at hl 1 rfl) ?_
    refine lv_icmp_ge (tgt := 95) hx hb dX8_findPoints_65 (by decide) (fun h8 => ?_) (fun h8 => ?_)
    · have hf := hs_tt h8 hf
      exact wX8_findPoints_95 fu C hem k43 hk43 k53 hk53 σ x0 x1 x2 x3 hf hB hS hl
    · have hf := hs_ff h8 hf
      refine lv_aload_n hx hb dX8_findPoints_68 rfl (lv_at hl 0 rfl) ?_
      obtain ⟨n13, h12, hf⟩ := hs_bi hf
      refine x_getN hx hb hts inX8_findPoints_X8 hown hK hB (by decide) rfl (k := 31) (by decide) rfl h12 (hts _ lkX8_findPoints_2) (fun _ h9 => h9) dX8_findPoints_69 ?_
      refine lv_bipush (v := 15) hx hb dX8_findPoints_72 (by decide) ?_
      refine lv_iload_n hx hb dX8_findPoints_74 rfl (lv_at hl 2 rfl) ?_
      refine lv_imul hx hb dX8_findPoints_75 ?_
      refine lv_iload_n hx hb dX8_findPoints_76 rfl (lv_at hl 3 rfl) ?_
      refine lv_iadd hx hb dX8_findPoints_77 ?_
      obtain ⟨v14, h15, hf⟩ := hs_bi hf
      refine x_zald hx hb hK hB h15 dX8_findPoints_78 ?_
      refine lv_if_eq (tgt := 95) hx hb dX8_findPoints_79 (by decide) (fun h16 => ?_) (fun h16 => ?_)
      · have hf := hs_tt h16 hf
        exact wX8_findPoints_95 fu C hem k43 hk43 k53 hk53 σ x0 x1 x2 x3 hf hB hS hl
      · have hf := hs_ff h16 hf
        refine lv_aload_n hx hb dX8_findPoints_82 rfl (lv_at hl 0 rfl) ?_
        obtain ⟨n18, h17, hf⟩ := hs_bi hf
        refine x_getN hx hb hts inX8_findPoints_X8 hown hK hB (by decide) rfl (k := 39) (by decide) rfl h17 (hts _ lkX8_findPoints_3) (fun _ h9 => h9) dX8_findPoints_83 ?_
        refine lv_iload_n hx hb dX8_findPoints_86 rfl (lv_at hl 3 rfl) ?_
        refine lv_iconst (v := 3) hx hb dX8_findPoints_87 (by decide) ?_
        refine lv_idiv hx hb dX8_findPoints_88 (by decide) ?_
        refine lv_dup2_11 hx hb dX8_findPoints_89 rfl rfl ?_
        obtain ⟨v19, h20, hf⟩ := hs_bi hf
        refine x_iald hx hb hK hB h20 dX8_findPoints_90 ?_
        refine lv_bipush (v := 10) hx hb dX8_findPoints_91 (by decide) ?_
        refine lv_iadd hx hb dX8_findPoints_93 ?_
        obtain ⟨σ21, h22, hf⟩ := hs_bi hf
        refine x_iast hx hb hK hB hS h22 dX8_findPoints_94 (fun H locs hB hS => ?_)
        exact wX8_findPoints_95 fu C hem k43 hk43 k53 hk53 σ21 x0 x1 x2 x3 hf hB hS hl
set_option maxRecDepth 100000 in
set_option maxHeartbeats 4000000 in
theorem wX8_findPoints_53 (fu : Nat) (C : hs_Cx p s m args meth c X A yX8_findPoints cX8_findPoints 4 none wsX8_findPoints) (hem : ad hs_em = X.2.2.1.2.2.2) (k43 : hs_T → Nat → Int32 → Int32 → Option (Unit × hs_T)) (hk43 : ∀ (σ : hs_T) (x0 : Nat) (x1 : Int32) (x2 : Int32) (H : Heap) (locs : List Loc) (ls : Array Slot), k43 σ x0 x1 x2 = some (r, τ) → hs_H X.1 X.2.1 ad A σ H → va_S A s.heap H locs → lv_has ls 4 [(0, .ref (ad x0)), (1, .int x1), (2, .int x2)] → W p l e rmX8_findPoints s m args below meth c H locs 0 0 (MQ below (hs_Q0 hs_tvv X ad A r τ) args s 0 0 A) (F0 m 43 ls [])) {H : Heap} {locs : List Loc} {ls : Array Slot} (σ : hs_T) (x0 : Nat) (x1 : Int32) (x2 : Int32) (x3 : Int32) (hf : fX8_findPoints_53 fu k43 σ x0 x1 x2 x3 = some (r, τ)) (hB : hs_H X.1 X.2.1 ad A σ H) (hS : va_S A s.heap H locs) (hl : lv_has ls 4 [(0, .ref (ad x0)), (1, .int x1), (2, .int x2), (3, .int x3)]) : W p l e rmX8_findPoints s m args below meth c H locs 0 0 (MQ below (hs_Q0 hs_tvv X ad A r τ) args s 0 0 A) (F0 m 53 ls []) := by
  unfold fX8_findPoints_53 at hf
  exact hs_lp_i (P := fun a => ∀ (H : Heap) (locs : List Loc) (ls : Array Slot), hs_H X.1 X.2.1 ad A a.1 H → va_S A s.heap H locs → lv_has ls 4 [(0, .ref (ad a.2.1)), (1, .int a.2.2.1), (2, .int a.2.2.2.1), (3, .int a.2.2.2.2)] → W p l e rmX8_findPoints s m args below meth c H locs 0 0 (MQ below (hs_Q0 hs_tvv X ad A r τ) args s 0 0 A) (F0 m 53 ls [])) (fun k a hk hf H locs ls hB hS hl => wX8_findPoints_53b fu C hem k43 hk43 _ (fun σ x0 x1 x2 x3 H locs ls hf hB hS hl => hk (σ, x0, x1, x2, x3) hf H locs ls hB hS hl) a.1 a.2.1 a.2.2.1 a.2.2.2.1 a.2.2.2.2 hf hB hS hl) fu (σ, x0, x1, x2, x3) hf H locs ls hB hS hl
set_option maxRecDepth 100000 in
set_option maxHeartbeats 4000000 in
theorem wX8_findPoints_43b (fu : Nat) (C : hs_Cx p s m args meth c X A yX8_findPoints cX8_findPoints 4 none wsX8_findPoints) (hem : ad hs_em = X.2.2.1.2.2.2)  (k43 : hs_T → Nat → Int32 → Int32 → Option (Unit × hs_T)) (hk43 : ∀ (σ : hs_T) (x0 : Nat) (x1 : Int32) (x2 : Int32) (H : Heap) (locs : List Loc) (ls : Array Slot), k43 σ x0 x1 x2 = some (r, τ) → hs_H X.1 X.2.1 ad A σ H → va_S A s.heap H locs → lv_has ls 4 [(0, .ref (ad x0)), (1, .int x1), (2, .int x2)] → W p l e rmX8_findPoints s m args below meth c H locs 0 0 (MQ below (hs_Q0 hs_tvv X ad A r τ) args s 0 0 A) (F0 m 43 ls [])) {H : Heap} {locs : List Loc} {ls : Array Slot} (σ : hs_T) (x0 : Nat) (x1 : Int32) (x2 : Int32) (hf : fX8_findPoints_43b fu  k43 σ x0 x1 x2 = some (r, τ)) (hB : hs_H X.1 X.2.1 ad A σ H) (hS : va_S A s.heap H locs) (hl : lv_has ls 4 [(0, .ref (ad x0)), (1, .int x1), (2, .int x2)]) : W p l e rmX8_findPoints s m args below meth c H locs 0 0 (MQ below (hs_Q0 hs_tvv X ad A r τ) args s 0 0 A) (F0 m 43 ls []) := by
  obtain ⟨hx, hb, hml, hr, hts, hown, hlk, hnm, hV, hA0, hA⟩ := id C
  have hown : s.vm.findClass RX8 = some m.cls := hown
  have hK := hV.1
  have hNw := hV.2.1
  unfold fX8_findPoints_43b at hf
  refine lv_iload_n hx hb dX8_findPoints_43 rfl (lv_at hl 2 rfl) ?_
  refine lv_aload_n hx hb dX8_findPoints_44 rfl (lv_at hl 0 rfl) ?_
  obtain ⟨v3, h2, hf⟩ := hs_bi hf
  refine x_getI hx hb hts inX8_findPoints_X8 hown hK hB (by decide) rfl (k := 1) (by decide) rfl h2 (hts _ lkX8_findPoints_0) (fun _ h9 => h9) dX8_findPoints_45 ?_
  refine lv_icmp_ge (tgt := 114) hx hb dX8_findPoints_48 (by decide) (fun h4 => ?_) (fun h4 => ?_)
  · have hf := hs_tt h4 hf
    obtain ⟨rfl, rfl⟩ := hs_ri hf
    exact hs_vret hx hb hr hlk hB hS dX8_findPoints_114
  · have hf := hs_ff h4 hf
    refine lv_iconst (v := 0) hx hb dX8_findPoints_51 (by decide) ?_
    refine lv_istore_n (lv' := [(3, .int 0), (0, .ref (ad x0)), (1, .int x1), (2, .int x2)]) hx hb dX8_findPoints_52 rfl hl (by decide) rfl (fun ls hl => ?_)
    exact wX8_findPoints_53 fu C hem k43 hk43 σ x0 x1 x2 0 hf hB hS (lv_sub hl [1, 2, 3, 0] rfl)
set_option maxRecDepth 100000 in
set_option maxHeartbeats 4000000 in
theorem wX8_findPoints_43 (fu : Nat) (C : hs_Cx p s m args meth c X A yX8_findPoints cX8_findPoints 4 none wsX8_findPoints) (hem : ad hs_em = X.2.2.1.2.2.2)  {H : Heap} {locs : List Loc} {ls : Array Slot} (σ : hs_T) (x0 : Nat) (x1 : Int32) (x2 : Int32) (hf : fX8_findPoints_43 fu  σ x0 x1 x2 = some (r, τ)) (hB : hs_H X.1 X.2.1 ad A σ H) (hS : va_S A s.heap H locs) (hl : lv_has ls 4 [(0, .ref (ad x0)), (1, .int x1), (2, .int x2)]) : W p l e rmX8_findPoints s m args below meth c H locs 0 0 (MQ below (hs_Q0 hs_tvv X ad A r τ) args s 0 0 A) (F0 m 43 ls []) := by
  unfold fX8_findPoints_43 at hf
  exact hs_lp_i (P := fun a => ∀ (H : Heap) (locs : List Loc) (ls : Array Slot), hs_H X.1 X.2.1 ad A a.1 H → va_S A s.heap H locs → lv_has ls 4 [(0, .ref (ad a.2.1)), (1, .int a.2.2.1), (2, .int a.2.2.2)] → W p l e rmX8_findPoints s m args below meth c H locs 0 0 (MQ below (hs_Q0 hs_tvv X ad A r τ) args s 0 0 A) (F0 m 43 ls [])) (fun k a hk hf H locs ls hB hS hl => wX8_findPoints_43b fu C hem  _ (fun σ x0 x1 x2 H locs ls hf hB hS hl => hk (σ, x0, x1, x2) hf H locs ls hB hS hl) a.1 a.2.1 a.2.2.1 a.2.2.2 hf hB hS hl) fu (σ, x0, x1, x2) hf H locs ls hB hS hl
set_option maxRecDepth 100000 in
set_option maxHeartbeats 4000000 in
theorem wX8_findPoints_2b (fu : Nat) (C : hs_Cx p s m args meth c X A yX8_findPoints cX8_findPoints 4 none wsX8_findPoints) (hem : ad hs_em = X.2.2.1.2.2.2)  (k2 : hs_T → Nat → Int32 → Int32 → Option (Unit × hs_T)) (hk2 : ∀ (σ : hs_T) (x0 : Nat) (x1 : Int32) (x2 : Int32) (H : Heap) (locs : List Loc) (ls : Array Slot), k2 σ x0 x1 x2 = some (r, τ) → hs_H X.1 X.2.1 ad A σ H → va_S A s.heap H locs → lv_has ls 4 [(0, .ref (ad x0)), (1, .int x1), (2, .int x2)] → W p l e rmX8_findPoints s m args below meth c H locs 0 0 (MQ below (hs_Q0 hs_tvv X ad A r τ) args s 0 0 A) (F0 m 2 ls [])) {H : Heap} {locs : List Loc} {ls : Array Slot} (σ : hs_T) (x0 : Nat) (x1 : Int32) (x2 : Int32) (hf : fX8_findPoints_2b fu  k2 σ x0 x1 x2 = some (r, τ)) (hB : hs_H X.1 X.2.1 ad A σ H) (hS : va_S A s.heap H locs) (hl : lv_has ls 4 [(0, .ref (ad x0)), (1, .int x1), (2, .int x2)]) : W p l e rmX8_findPoints s m args below meth c H locs 0 0 (MQ below (hs_Q0 hs_tvv X ad A r τ) args s 0 0 A) (F0 m 2 ls []) := by
  obtain ⟨hx, hb, hml, hr, hts, hown, hlk, hnm, hV, hA0, hA⟩ := id C
  have hown : s.vm.findClass RX8 = some m.cls := hown
  have hK := hV.1
  have hNw := hV.2.1
  unfold fX8_findPoints_2b at hf
  refine lv_iload_n hx hb dX8_findPoints_2 rfl (lv_at hl 2 rfl) ?_
  refine lv_iconst (v := 5) hx hb dX8_findPoints_3 (by decide) ?_
  refine lv_icmp_ge (tgt := 41) hx hb dX8_findPoints_4 (by decide) (fun h1 => ?_) (fun h1 => ?_)
  · have hf := hs_tt h1 hf
    refine lv_iconst (v := 0) hx hb dX8_findPoints_41 (by decide) ?_
    refine lv_istore_n (lv' := [(2, .int 0), (0, .ref (ad x0)), (1, .int x1)]) hx hb dX8_findPoints_42 rfl hl (by decide) rfl (fun ls hl => ?_)
    exact wX8_findPoints_43 fu C hem σ x0 x1 0 hf hB hS (lv_sub hl [1, 2, 0] rfl)
  · have hf := hs_ff h1 hf
    refine lv_aload_n hx hb dX8_findPoints_7 rfl (lv_at hl 0 rfl) ?_
    obtain ⟨n24, h23, hf⟩ := hs_bi hf
    refine x_getN hx hb hts inX8_findPoints_X8 hown hK hB (by decide) rfl (k := 39) (by decide) rfl h23 (hts _ lkX8_findPoints_3) (fun _ h9 => h9) dX8_findPoints_8 ?_
    refine lv_iload_n hx hb dX8_findPoints_11 rfl (lv_at hl 2 rfl) ?_
    refine lv_iconst (v := 0) hx hb dX8_findPoints_12 (by decide) ?_
    obtain ⟨σ25, h26, hf⟩ := hs_bi hf
    refine x_iast hx hb hK hB hS h26 dX8_findPoints_13 (fun H locs hB hS => ?_)
    refine lv_aload_n hx hb dX8_findPoints_14 rfl (lv_at hl 0 rfl) ?_
    obtain ⟨n28, h27, hf⟩ := hs_bi hf
    refine x_getN hx hb hts inX8_findPoints_X8 hown hK hB (by decide) rfl (k := 40) (by decide) rfl h27 (hts _ lkX8_findPoints_4) (fun _ h9 => h9) dX8_findPoints_15 ?_
    refine lv_iload_n hx hb dX8_findPoints_18 rfl (lv_at hl 2 rfl) ?_
    refine lv_iconst (v := 0) hx hb dX8_findPoints_19 (by decide) ?_
    obtain ⟨σ29, h30, hf⟩ := hs_bi hf
    refine x_iast hx hb hK hB hS h30 dX8_findPoints_20 (fun H locs hB hS => ?_)
    refine lv_aload_n hx hb dX8_findPoints_21 rfl (lv_at hl 0 rfl) ?_
    obtain ⟨n32, h31, hf⟩ := hs_bi hf
    refine x_getN hx hb hts inX8_findPoints_X8 hown hK hB (by decide) rfl (k := 41) (by decide) rfl h31 (hts _ lkX8_findPoints_5) (fun _ h9 => h9) dX8_findPoints_22 ?_
    refine lv_iload_n hx hb dX8_findPoints_25 rfl (lv_at hl 2 rfl) ?_
    refine lv_iconst (v := 0) hx hb dX8_findPoints_26 (by decide) ?_
    obtain ⟨σ33, h34, hf⟩ := hs_bi hf
    refine x_iast hx hb hK hB hS h34 dX8_findPoints_27 (fun H locs hB hS => ?_)
    refine lv_aload_n hx hb dX8_findPoints_28 rfl (lv_at hl 0 rfl) ?_
    obtain ⟨n36, h35, hf⟩ := hs_bi hf
    refine x_getN hx hb hts inX8_findPoints_X8 hown hK hB (by decide) rfl (k := 42) (by decide) rfl h35 (hts _ lkX8_findPoints_6) (fun _ h9 => h9) dX8_findPoints_29 ?_
    refine lv_iload_n hx hb dX8_findPoints_32 rfl (lv_at hl 2 rfl) ?_
    refine lv_iconst (v := 0) hx hb dX8_findPoints_33 (by decide) ?_
    obtain ⟨σ37, h38, hf⟩ := hs_bi hf
    refine x_iast hx hb hK hB hS h38 dX8_findPoints_34 (fun H locs hB hS => ?_)
    refine lv_iinc (v := (x2 + 1)) (lv' := [(2, .int (x2 + 1)), (0, .ref (ad x0)), (1, .int x1)]) hx hb dX8_findPoints_35 hl (k := 2) rfl rfl (by decide) rfl (fun ls hl => ?_)
    refine lv_goto (tgt := 2) hx hb dX8_findPoints_38 (by decide) ?_
    exact hk2 σ37 x0 x1 (x2 + 1) _ _ _ hf hB hS (lv_sub hl [1, 2, 0] rfl)
set_option maxRecDepth 100000 in
set_option maxHeartbeats 4000000 in
theorem wX8_findPoints_2 (fu : Nat) (C : hs_Cx p s m args meth c X A yX8_findPoints cX8_findPoints 4 none wsX8_findPoints) (hem : ad hs_em = X.2.2.1.2.2.2)  {H : Heap} {locs : List Loc} {ls : Array Slot} (σ : hs_T) (x0 : Nat) (x1 : Int32) (x2 : Int32) (hf : fX8_findPoints_2 fu  σ x0 x1 x2 = some (r, τ)) (hB : hs_H X.1 X.2.1 ad A σ H) (hS : va_S A s.heap H locs) (hl : lv_has ls 4 [(0, .ref (ad x0)), (1, .int x1), (2, .int x2)]) : W p l e rmX8_findPoints s m args below meth c H locs 0 0 (MQ below (hs_Q0 hs_tvv X ad A r τ) args s 0 0 A) (F0 m 2 ls []) := by
  unfold fX8_findPoints_2 at hf
  exact hs_lp_i (P := fun a => ∀ (H : Heap) (locs : List Loc) (ls : Array Slot), hs_H X.1 X.2.1 ad A a.1 H → va_S A s.heap H locs → lv_has ls 4 [(0, .ref (ad a.2.1)), (1, .int a.2.2.1), (2, .int a.2.2.2)] → W p l e rmX8_findPoints s m args below meth c H locs 0 0 (MQ below (hs_Q0 hs_tvv X ad A r τ) args s 0 0 A) (F0 m 2 ls [])) (fun k a hk hf H locs ls hB hS hl => wX8_findPoints_2b fu C hem  _ (fun σ x0 x1 x2 H locs ls hf hB hS hl => hk (σ, x0, x1, x2) hf H locs ls hB hS hl) a.1 a.2.1 a.2.2.1 a.2.2.2 hf hB hS hl) fu (σ, x0, x1, x2) hf H locs ls hB hS hl
set_option maxRecDepth 100000 in
set_option maxHeartbeats 4000000 in
theorem wX8_findPoints_e (fu : Nat) (C : hs_Cx p s m args meth c X A yX8_findPoints cX8_findPoints 4 none wsX8_findPoints) (hem : ad hs_em = X.2.2.1.2.2.2) {H : Heap} {locs : List Loc} {ls : Array Slot} (σ : hs_T) (o : Nat) (a1 : Int32) (hf : fX8_findPoints fu σ o a1 = some (r, τ)) (hB : hs_H X.1 X.2.1 ad A σ H) (hS : va_S A s.heap H locs) (hl : lv_has ls 4 [(0, .ref (ad o)), (1, .int a1)]) : W p l e rmX8_findPoints s m args below meth c H locs 0 0 (MQ below (hs_Q0 hs_tvv X ad A r τ) args s 0 0 A) (F0 m 0 ls []) := by
  obtain ⟨hx, hb, hml, hr, hts, hown, hlk, hnm, hV, hA0, hA⟩ := id C
  have hown : s.vm.findClass RX8 = some m.cls := hown
  have hK := hV.1
  have hNw := hV.2.1
  unfold fX8_findPoints at hf
  refine lv_iconst (v := 0) hx hb dX8_findPoints_0 (by decide) ?_
  refine lv_istore_n (lv' := [(2, .int 0), (0, .ref (ad o)), (1, .int a1)]) hx hb dX8_findPoints_1 rfl hl (by decide) rfl (fun ls hl => ?_)
  exact wX8_findPoints_2 fu C hem σ o a1 0 hf hB hS (lv_sub hl [1, 2, 0] rfl)
end SX8_findPoints
set_option maxRecDepth 100000 in
theorem ctX8_findPoints (l : Launch) (fu : Nat) (σ : hs_T) (o : Nat) (a1 : Int32) : hs_C0 hs_tvv l yX8_findPoints wsX8_findPoints rmX8_findPoints (fun ad => [.ref (ad o), .int a1]) σ (fX8_findPoints fu σ o a1) := by
  intro X ad sz r τ hf
  refine hs_enter (cc := cX8_findPoints) (maxL := 4) (ret := none) (by decide) rfl (Nat.le_of_ble_eq_true rfl) ?_
  intro p e s m below meth c ls C hl hem hB hS hsz
  exact wX8_findPoints_e fu C hem σ o a1 hf hB hS hl
/-! ServiceGameModel.sum(I)I -/
abbrev rmX8_sum : Room := { frames := 0, cells := 0, slots := 0, locals := 0 }
theorem inX8_sum_X8 : ∀ w ∈ wsX80, w ∈ wsX8_sum := fun _ h => List.mem_cons_of_mem _ (List.mem_append_right _ h)
theorem lkX8_sum_0 : Cond.fieldLink RX8 92 "ServiceGameModel" "pointsUp" "[I" ∈ wsX8_sum := by decide +kernel
theorem lkX8_sum_1 : Cond.fieldLink RX8 95 "ServiceGameModel" "pointsStolen" "[I" ∈ wsX8_sum := by decide +kernel
theorem lkX8_sum_2 : Cond.fieldLink RX8 98 "ServiceGameModel" "pointsOff" "[I" ∈ wsX8_sum := by decide +kernel
def fX8_sum (fu : Nat) (σ : hs_T) (o : Nat) (a1 : Int32) : Option (Int32 × hs_T) :=
 (hs_gN σ 10 o 39).bind fun n2 =>
 (hs_ld σ 11 n2 a1).bind fun v3 =>
 (hs_gN σ 10 o 40).bind fun n6 =>
 (hs_ld σ 11 n6 a1).bind fun v7 =>
 (hs_gN σ 10 o 41).bind fun n10 =>
 (hs_ld σ 11 n10 a1).bind fun v11 =>
 some (((v3 + v7) - v11), σ)
section SX8_sum
variable {p : Program} {l : Launch} {e : Env} {s : State} {m : MethodId} {args : Array Value} {below : List Frame} {meth : Method} {c : Code} {X : hs_X} {ad : Nat → Nat} {A : Nat → Prop} {r : Int32} {τ : hs_T}
set_option maxRecDepth 100000 in
set_option maxHeartbeats 4000000 in
theorem wX8_sum_e (fu : Nat) (C : hs_Cx p s m args meth c X A yX8_sum cX8_sum 2 (some .int) wsX8_sum) (hem : ad hs_em = X.2.2.1.2.2.2) {H : Heap} {locs : List Loc} {ls : Array Slot} (σ : hs_T) (o : Nat) (a1 : Int32) (hf : fX8_sum fu σ o a1 = some (r, τ)) (hB : hs_H X.1 X.2.1 ad A σ H) (hS : va_S A s.heap H locs) (hl : lv_has ls 2 [(0, .ref (ad o)), (1, .int a1)]) : W p l e rmX8_sum s m args below meth c H locs 0 0 (MQ below (hs_Q0 hs_tvi X ad A r τ) args s 0 0 A) (F0 m 0 ls []) := by
  obtain ⟨hx, hb, hml, hr, hts, hown, hlk, hnm, hV, hA0, hA⟩ := id C
  have hown : s.vm.findClass RX8 = some m.cls := hown
  have hK := hV.1
  have hNw := hV.2.1
  unfold fX8_sum at hf
  refine lv_aload_n hx hb dX8_sum_0 rfl (lv_at hl 0 rfl) ?_
  obtain ⟨n2, h1, hf⟩ := hs_bi hf
  refine x_getN hx hb hts inX8_sum_X8 hown hK hB (by decide) rfl (k := 39) (by decide) rfl h1 (hts _ lkX8_sum_0) (fun _ h9 => h9) dX8_sum_1 ?_
  refine lv_iload_n hx hb dX8_sum_4 rfl (lv_at hl 1 rfl) ?_
  obtain ⟨v3, h4, hf⟩ := hs_bi hf
  refine x_iald hx hb hK hB h4 dX8_sum_5 ?_
  refine lv_aload_n hx hb dX8_sum_6 rfl (lv_at hl 0 rfl) ?_
  obtain ⟨n6, h5, hf⟩ := hs_bi hf
  refine x_getN hx hb hts inX8_sum_X8 hown hK hB (by decide) rfl (k := 40) (by decide) rfl h5 (hts _ lkX8_sum_1) (fun _ h9 => h9) dX8_sum_7 ?_
  refine lv_iload_n hx hb dX8_sum_10 rfl (lv_at hl 1 rfl) ?_
  obtain ⟨v7, h8, hf⟩ := hs_bi hf
  refine x_iald hx hb hK hB h8 dX8_sum_11 ?_
  refine lv_iadd hx hb dX8_sum_12 ?_
  refine lv_aload_n hx hb dX8_sum_13 rfl (lv_at hl 0 rfl) ?_
  obtain ⟨n10, h9, hf⟩ := hs_bi hf
  refine x_getN hx hb hts inX8_sum_X8 hown hK hB (by decide) rfl (k := 41) (by decide) rfl h9 (hts _ lkX8_sum_2) (fun _ h9 => h9) dX8_sum_14 ?_
  refine lv_iload_n hx hb dX8_sum_17 rfl (lv_at hl 1 rfl) ?_
  obtain ⟨v11, h12, hf⟩ := hs_bi hf
  refine x_iald hx hb hK hB h12 dX8_sum_18 ?_
  refine lv_isub hx hb dX8_sum_19 ?_
  obtain ⟨rfl, rfl⟩ := hs_ri hf
  exact hs_iret hx hb hr hlk hB hS dX8_sum_20
end SX8_sum
set_option maxRecDepth 100000 in
theorem ctX8_sum (l : Launch) (fu : Nat) (σ : hs_T) (o : Nat) (a1 : Int32) : hs_C0 hs_tvi l yX8_sum wsX8_sum rmX8_sum (fun ad => [.ref (ad o), .int a1]) σ (fX8_sum fu σ o a1) := by
  intro X ad sz r τ hf
  refine hs_enter (cc := cX8_sum) (maxL := 2) (ret := (some .int)) (by decide) rfl (Nat.le_of_ble_eq_true rfl) ?_
  intro p e s m below meth c ls C hl hem hB hS hsz
  exact wX8_sum_e fu C hem σ o a1 hf hB hS hl
/-! ServiceGameModel.points(II)I -/
abbrev rmX8_points : Room := { frames := 4, cells := 0, slots := 0, locals := 96 }
theorem inX8_points_X8 : ∀ w ∈ wsX80, w ∈ wsX8_points := fun _ h => List.mem_cons_of_mem _ (List.mem_append_right _ h)
theorem lkX8_points_0 : Cond.fieldLink RX8 92 "ServiceGameModel" "pointsUp" "[I" ∈ wsX8_points := by decide +kernel
theorem lkX8_points_1 : Cond.fieldLink RX8 95 "ServiceGameModel" "pointsStolen" "[I" ∈ wsX8_points := by decide +kernel
theorem lkX8_points_2 : Cond.fieldLink RX8 98 "ServiceGameModel" "pointsOff" "[I" ∈ wsX8_points := by decide +kernel
theorem lkX8_points_3 : Cond.fieldLink RX8 101 "ServiceGameModel" "flags" "[I" ∈ wsX8_points := by decide +kernel
theorem lkX8_points_4 : Cond.constant RX8 239 (-1000000) ∈ wsX8_points := by decide +kernel
def fX8_points (fu : Nat) (σ : hs_T) (o : Nat) (a1 : Int32) (a2 : Int32) : Option (Int32 × hs_T) :=
 (hs_ck σ 10 o).bind fun _ =>
 hs_b2 (fX8_isTeam fu σ o a1) fun v4 σ2 =>
 if v4 = 0 then
 (some ((-1000000), σ2))
 else
 ((hs_ck σ2 10 o).bind fun _ =>
 hs_b2 (fX8_findPoints fu σ2 o 1000) fun _ σ7 =>
 if a2 = 0 then
 ((hs_ck σ7 10 o).bind fun _ =>
 hs_b2 (fX8_sum fu σ7 o a1) fun v13 σ11 =>
 some (v13, σ11))
 else
 if a2 = 1 then
 ((hs_gN σ7 10 o 39).bind fun n16 =>
 (hs_ld σ7 11 n16 a1).bind fun v17 =>
 some (v17, σ7))
 else
 if a2 = 2 then
 ((hs_gN σ7 10 o 40).bind fun n21 =>
 (hs_ld σ7 11 n21 a1).bind fun v22 =>
 some (v22, σ7))
 else
 if a2 = 3 then
 ((hs_gN σ7 10 o 41).bind fun n26 =>
 (hs_ld σ7 11 n26 a1).bind fun v27 =>
 some (v27, σ7))
 else
 if a2 = 4 then
 ((hs_gN σ7 10 o 42).bind fun n31 =>
 (hs_ld σ7 11 n31 a1).bind fun v32 =>
 some (v32, σ7))
 else
 (some ((-1000000), σ7)))
section SX8_points
variable {p : Program} {l : Launch} {e : Env} {s : State} {m : MethodId} {args : Array Value} {below : List Frame} {meth : Method} {c : Code} {X : hs_X} {ad : Nat → Nat} {A : Nat → Prop} {r : Int32} {τ : hs_T}
set_option maxRecDepth 100000 in
set_option maxHeartbeats 4000000 in
theorem wX8_points_e (fu : Nat) (C : hs_Cx p s m args meth c X A yX8_points cX8_points 3 (some .int) wsX8_points) (hem : ad hs_em = X.2.2.1.2.2.2) {H : Heap} {locs : List Loc} {ls : Array Slot} (σ : hs_T) (o : Nat) (a1 : Int32) (a2 : Int32) (hf : fX8_points fu σ o a1 a2 = some (r, τ)) (hB : hs_H X.1 X.2.1 ad A σ H) (hS : va_S A s.heap H locs) (hl : lv_has ls 3 [(0, .ref (ad o)), (1, .int a1), (2, .int a2)]) : W p l e rmX8_points s m args below meth c H locs 0 0 (MQ below (hs_Q0 hs_tvi X ad A r τ) args s 0 0 A) (F0 m 0 ls []) := by
  obtain ⟨hx, hb, hml, hr, hts, hown, hlk, hnm, hV, hA0, hA⟩ := id C
  have hown : s.vm.findClass RX8 = some m.cls := hown
  have hK := hV.1
  have hNw := hV.2.1
  unfold fX8_points at hf
  refine lv_aload_n hx hb dX8_points_0 rfl (lv_at hl 0 rfl) ?_
  refine lv_iload_n hx hb dX8_points_1 rfl (lv_at hl 1 rfl) ?_
  obtain ⟨_, h3, hf⟩ := hs_bi hf
  obtain ⟨v4, σ2, h1, hf⟩ := hs_b2i hf
  refine hs_call0 (va_runV (As := [.int a1]) (rest := []) ⟨hx, hb, hml, hown, hts⟩ (ctX8_isTeam l fu σ o a1 X ad H.size _ _ h1) (cwV 1 hts gX8_points_X8_isTeam rfl rfl rfl (by decide +kernel) ⟨Nat.le_of_ble_eq_true rfl, Nat.le_of_ble_eq_true rfl⟩) (hs_preV (hs_recv hK hB (hs_ck_i h3) (by decide) rfl) hV hB hS hA0 hA hem) rfl rfl hl.1 rfl (lv_room (Nat.le_of_ble_eq_true rfl)) dX8_points_2 ⟨Nat.le_of_ble_eq_true rfl, Nat.le_of_ble_eq_true rfl⟩) hB hS hA rfl (fun H locs hB hS => ?_)
  refine lv_if_ne (tgt := 11) hx hb dX8_points_5 (by decide) (fun h5 => ?_) (fun h5 => ?_)
  · have hf := hs_ff h5 hf
    refine lv_aload_n hx hb dX8_points_11 rfl (lv_at hl 0 rfl) ?_
    refine lv_sipush (v := 1000) hx hb dX8_points_12 (by decide) ?_
    obtain ⟨_, h8, hf⟩ := hs_bi hf
    obtain ⟨_, σ7, h6, hf⟩ := hs_b2i hf
    refine hs_call0 (va_runV (As := [.int 1000]) (rest := []) ⟨hx, hb, hml, hown, hts⟩ (ctX8_findPoints l fu σ2 o 1000 X ad H.size _ _ h6) (cwV 1 hts gX8_points_X8_findPoints rfl rfl rfl (by decide +kernel) ⟨Nat.le_of_ble_eq_true rfl, Nat.le_of_ble_eq_true rfl⟩) (hs_preV (hs_recv hK hB (hs_ck_i h8) (by decide) rfl) hV hB hS hA0 hA hem) rfl rfl hl.1 rfl (lv_room (Nat.le_of_ble_eq_true rfl)) dX8_points_15 ⟨Nat.le_of_ble_eq_true rfl, Nat.le_of_ble_eq_true rfl⟩) hB hS hA rfl (fun H locs hB hS => ?_)
    refine lv_iload_n hx hb dX8_points_18 rfl (lv_at hl 2 rfl) ?_
    by_cases h9 : a2 = 0
    · have hf := hs_tt h9 hf
      refine lv_tableIn (tgt := 52) hx hb dX8_points_19 (by rw [h9]; decide) (by rw [h9]; decide) (by rw [h9]; exact rfl) (by decide) ?_
      refine lv_aload_n hx hb dX8_points_52 rfl (lv_at hl 0 rfl) ?_
      refine lv_iload_n hx hb dX8_points_53 rfl (lv_at hl 1 rfl) ?_
      obtain ⟨_, h12, hf⟩ := hs_bi hf
      obtain ⟨v13, σ11, h10, hf⟩ := hs_b2i hf
      refine hs_call0 (va_runV (As := [.int a1]) (rest := []) ⟨hx, hb, hml, hown, hts⟩ (ctX8_sum l fu σ7 o a1 X ad H.size _ _ h10) (cwV 1 hts gX8_points_X8_sum rfl rfl rfl (by decide +kernel) ⟨Nat.le_of_ble_eq_true rfl, Nat.le_of_ble_eq_true rfl⟩) (hs_preV (hs_recv hK hB (hs_ck_i h12) (by decide) rfl) hV hB hS hA0 hA hem) rfl rfl hl.1 rfl (lv_room (Nat.le_of_ble_eq_true rfl)) dX8_points_54 ⟨Nat.le_of_ble_eq_true rfl, Nat.le_of_ble_eq_true rfl⟩) hB hS hA rfl (fun H locs hB hS => ?_)
      obtain ⟨rfl, rfl⟩ := hs_ri hf
      exact hs_iret hx hb hr hlk hB hS dX8_points_57
    have hf := hs_ff h9 hf
    by_cases h14 : a2 = 1
    · have hf := hs_tt h14 hf
      refine lv_tableIn (tgt := 58) hx hb dX8_points_19 (by rw [h14]; decide) (by rw [h14]; decide) (by rw [h14]; exact rfl) (by decide) ?_
      refine lv_aload_n hx hb dX8_points_58 rfl (lv_at hl 0 rfl) ?_
      obtain ⟨n16, h15, hf⟩ := hs_bi hf
      refine x_getN hx hb hts inX8_points_X8 hown hK hB (by decide) rfl (k := 39) (by decide) rfl h15 (hts _ lkX8_points_0) (fun _ h9 => h9) dX8_points_59 ?_
      refine lv_iload_n hx hb dX8_points_62 rfl (lv_at hl 1 rfl) ?_
      obtain ⟨v17, h18, hf⟩ := hs_bi hf
      refine x_iald hx hb hK hB h18 dX8_points_63 ?_
      obtain ⟨rfl, rfl⟩ := hs_ri hf
      exact hs_iret hx hb hr hlk hB hS dX8_points_64
    have hf := hs_ff h14 hf
    by_cases h19 : a2 = 2
    · have hf := hs_tt h19 hf
      refine lv_tableIn (tgt := 65) hx hb dX8_points_19 (by rw [h19]; decide) (by rw [h19]; decide) (by rw [h19]; exact rfl) (by decide) ?_
      refine lv_aload_n hx hb dX8_points_65 rfl (lv_at hl 0 rfl) ?_
      obtain ⟨n21, h20, hf⟩ := hs_bi hf
      refine x_getN hx hb hts inX8_points_X8 hown hK hB (by decide) rfl (k := 40) (by decide) rfl h20 (hts _ lkX8_points_1) (fun _ h9 => h9) dX8_points_66 ?_
      refine lv_iload_n hx hb dX8_points_69 rfl (lv_at hl 1 rfl) ?_
      obtain ⟨v22, h23, hf⟩ := hs_bi hf
      refine x_iald hx hb hK hB h23 dX8_points_70 ?_
      obtain ⟨rfl, rfl⟩ := hs_ri hf
      exact hs_iret hx hb hr hlk hB hS dX8_points_71
    have hf := hs_ff h19 hf
    by_cases h24 : a2 = 3
    · have hf := hs_tt h24 hf
      refine lv_tableIn (tgt := 72) hx hb dX8_points_19 (by rw [h24]; decide) (by rw [h24]; decide) (by rw [h24]; exact rfl) (by decide) ?_
      refine lv_aload_n hx hb dX8_points_72 rfl (lv_at hl 0 rfl) ?_
      obtain ⟨n26, h25, hf⟩ := hs_bi hf
      refine x_getN hx hb hts inX8_points_X8 hown hK hB (by decide) rfl (k := 41) (by decide) rfl h25 (hts _ lkX8_points_2) (fun _ h9 => h9) dX8_points_73 ?_
      refine lv_iload_n hx hb dX8_points_76 rfl (lv_at hl 1 rfl) ?_
      obtain ⟨v27, h28, hf⟩ := hs_bi hf
      refine x_iald hx hb hK hB h28 dX8_points_77 ?_
      obtain ⟨rfl, rfl⟩ := hs_ri hf
      exact hs_iret hx hb hr hlk hB hS dX8_points_78
    have hf := hs_ff h24 hf
    by_cases h29 : a2 = 4
    · have hf := hs_tt h29 hf
      refine lv_tableIn (tgt := 79) hx hb dX8_points_19 (by rw [h29]; decide) (by rw [h29]; decide) (by rw [h29]; exact rfl) (by decide) ?_
      refine lv_aload_n hx hb dX8_points_79 rfl (lv_at hl 0 rfl) ?_
      obtain ⟨n31, h30, hf⟩ := hs_bi hf
      refine x_getN hx hb hts inX8_points_X8 hown hK hB (by decide) rfl (k := 42) (by decide) rfl h30 (hts _ lkX8_points_3) (fun _ h9 => h9) dX8_points_80 ?_
      refine lv_iload_n hx hb dX8_points_83 rfl (lv_at hl 1 rfl) ?_
      obtain ⟨v32, h33, hf⟩ := hs_bi hf
      refine x_iald hx hb hK hB h33 dX8_points_84 ?_
      obtain ⟨rfl, rfl⟩ := hs_ri hf
      exact hs_iret hx hb hr hlk hB hS dX8_points_85
    have hf := hs_ff h29 hf
    refine lv_tableOut (tgt := 86) hx hb dX8_points_19 (by have g0 := lv_neT h9 (a := 0) (by decide); have g1 := lv_neT h14 (a := 1) (by decide); have g2 := lv_neT h19 (a := 2) (by decide); have g3 := lv_neT h24 (a := 3) (by decide); have g4 := lv_neT h29 (a := 4) (by decide); omega) (by decide) ?_
    refine lv_ldc hx hb hown (hts _ lkX8_points_4) dX8_points_86 ?_
    obtain ⟨rfl, rfl⟩ := hs_ri hf
    exact hs_iret hx hb hr hlk hB hS dX8_points_88
  · have hf := hs_tt h5 hf
    refine lv_ldc hx hb hown (hts _ lkX8_points_4) dX8_points_8 ?_
    obtain ⟨rfl, rfl⟩ := hs_ri hf
    exact hs_iret hx hb hr hlk hB hS dX8_points_10
end SX8_points
set_option maxRecDepth 100000 in
theorem ctX8_points (l : Launch) (fu : Nat) (σ : hs_T) (o : Nat) (a1 : Int32) (a2 : Int32) : hs_C0 hs_tvi l yX8_points wsX8_points rmX8_points (fun ad => [.ref (ad o), .int a1, .int a2]) σ (fX8_points fu σ o a1 a2) := by
  intro X ad sz r τ hf
  refine hs_enter (cc := cX8_points) (maxL := 3) (ret := (some .int)) (by decide) rfl (Nat.le_of_ble_eq_true rfl) ?_
  intro p e s m below meth c ls C hl hem hB hS hsz
  exact wX8_points_e fu C hem σ o a1 a2 hf hB hS hl
/-! ServiceGameModel.board(II)I -/
abbrev rmX8_board : Room := { frames := 4, cells := 0, slots := 0, locals := 96 }
theorem inX8_board_X8 : ∀ w ∈ wsX80, w ∈ wsX8_board := fun _ h => List.mem_cons_of_mem _ (List.mem_append_right _ h)
theorem lkX8_board_0 : Cond.constant RX8 239 (-1000000) ∈ wsX8_board := by decide +kernel
theorem lkX8_board_1 : Cond.fieldLink RX8 47 "ServiceGameModel" "set" "[I" ∈ wsX8_board := by decide +kernel
theorem lkX8_board_2 : Cond.fieldLink RX8 104 "ServiceGameModel" "teams" "I" ∈ wsX8_board := by decide +kernel
def fX8_board_18 (fu : Nat)  (σ : hs_T)  : Option (Int32 × hs_T) :=
 some ((-1000000), σ)
def fX8_board_47b (fu : Nat) (k33 : hs_T → Nat → Int32 → Int32 → Int32 → Option (Int32 × hs_T)) (k47 : hs_T → Nat → Int32 → Int32 → Int32 → Int32 → Int32 → Option (Int32 × hs_T)) (σ : hs_T) (x0 : Nat) (x1 : Int32) (x2 : Int32) (x3 : Int32) (x4 : Int32) (x5 : Int32) : Option (Int32 × hs_T) :=
 (hs_gI σ 10 x0 0).bind fun v21 =>
 if v21 ≤ x5 then
 (if x4 = x1 then
 (if x2 = 0 then
 (some (x3, σ))
 else
 ((hs_ck σ 10 x0).bind fun _ =>
 hs_b2 (fX8_sum fu σ x0 x3) fun v28 σ26 =>
 some (v28, σ26)))
 else
 (k33 σ x0 x1 x2 (x3 + 1)))
 else
 ((hs_ck σ 10 x0).bind fun _ =>
 hs_b2 (fX8_sum fu σ x0 x5) fun v32 σ30 =>
 (hs_ck σ30 10 x0).bind fun _ =>
 hs_b2 (fX8_sum fu σ30 x0 x3) fun v36 σ34 =>
 if v36 < v32 then
 (k47 σ34 x0 x1 x2 x3 (x4 + 1) (x5 + 1))
 else
 ((hs_ck σ34 10 x0).bind fun _ =>
 hs_b2 (fX8_sum fu σ34 x0 x5) fun v41 σ39 =>
 (hs_ck σ39 10 x0).bind fun _ =>
 hs_b2 (fX8_sum fu σ39 x0 x3) fun v45 σ43 =>
 if v41 = v45 then
 (if x3 ≤ x5 then
 (k47 σ43 x0 x1 x2 x3 (x4 + 0) (x5 + 1))
 else
 (k47 σ43 x0 x1 x2 x3 (x4 + 1) (x5 + 1)))
 else
 (k47 σ43 x0 x1 x2 x3 (x4 + 0) (x5 + 1))))
def fX8_board_47 (fu : Nat) (k33 : hs_T → Nat → Int32 → Int32 → Int32 → Option (Int32 × hs_T)) (σ : hs_T) (x0 : Nat) (x1 : Int32) (x2 : Int32) (x3 : Int32) (x4 : Int32) (x5 : Int32) : Option (Int32 × hs_T) :=
   hs_lp (fun (k : hs_T × Nat × Int32 × Int32 × Int32 × Int32 × Int32 → Option (Int32 × hs_T)) (a : hs_T × Nat × Int32 × Int32 × Int32 × Int32 × Int32) => fX8_board_47b fu k33 (fun σ x0 x1 x2 x3 x4 x5 => k (σ, x0, x1, x2, x3, x4, x5)) a.1 a.2.1 a.2.2.1 a.2.2.2.1 a.2.2.2.2.1 a.2.2.2.2.2.1 a.2.2.2.2.2.2) fu (σ, x0, x1, x2, x3, x4, x5)
def fX8_board_33b (fu : Nat)  (k33 : hs_T → Nat → Int32 → Int32 → Int32 → Option (Int32 × hs_T)) (σ : hs_T) (x0 : Nat) (x1 : Int32) (x2 : Int32) (x3 : Int32) : Option (Int32 × hs_T) :=
 (hs_gI σ 10 x0 0).bind fun v18 =>
 if v18 ≤ x3 then
 (some ((-1000000), σ))
 else
 (fX8_board_47 fu k33 σ x0 x1 x2 x3 0 0)
def fX8_board_33 (fu : Nat)  (σ : hs_T) (x0 : Nat) (x1 : Int32) (x2 : Int32) (x3 : Int32) : Option (Int32 × hs_T) :=
   hs_lp (fun (k : hs_T × Nat × Int32 × Int32 × Int32 → Option (Int32 × hs_T)) (a : hs_T × Nat × Int32 × Int32 × Int32) => fX8_board_33b fu  (fun σ x0 x1 x2 x3 => k (σ, x0, x1, x2, x3)) a.1 a.2.1 a.2.2.1 a.2.2.2.1 a.2.2.2.2) fu (σ, x0, x1, x2, x3)
def fX8_board (fu : Nat) (σ : hs_T) (o : Nat) (a1 : Int32) (a2 : Int32) : Option (Int32 × hs_T) :=
 (hs_ck σ 10 o).bind fun _ =>
 hs_b2 (fX8_isTeam fu σ o a1) fun v4 σ2 =>
 if v4 = 0 then
 (fX8_board_18 fu σ2 )
 else
 (hs_b2 (fX8_isIn fu σ2 a2.toInt64 0 1) fun v8 σ7 =>
 if v8 = 0 then
 (fX8_board_18 fu σ7 )
 else
 ((hs_gN σ7 10 o 17).bind fun n11 =>
 (hs_ld σ7 11 n11 3).bind fun v12 =>
 (hs_ck σ7 10 o).bind fun _ =>
 hs_b2 (fX8_findPoints fu σ7 o v12) fun _ σ15 =>
 fX8_board_33 fu σ15 o a1 a2 0))
section SX8_board
variable {p : Program} {l : Launch} {e : Env} {s : State} {m : MethodId} {args : Array Value} {below : List Frame} {meth : Method} {c : Code} {X : hs_X} {ad : Nat → Nat} {A : Nat → Prop} {r : Int32} {τ : hs_T}
set_option maxRecDepth 100000 in
set_option maxHeartbeats 4000000 in
theorem wX8_board_18 (fu : Nat) (C : hs_Cx p s m args meth c X A yX8_board cX8_board 6 (some .int) wsX8_board) (hem : ad hs_em = X.2.2.1.2.2.2)  {H : Heap} {locs : List Loc} {ls : Array Slot} (σ : hs_T)  (hf : fX8_board_18 fu  σ  = some (r, τ)) (hB : hs_H X.1 X.2.1 ad A σ H) (hS : va_S A s.heap H locs) (hl : lv_has ls 6 []) : W p l e rmX8_board s m args below meth c H locs 0 0 (MQ below (hs_Q0 hs_tvi X ad A r τ) args s 0 0 A) (F0 m 18 ls []) := by
  obtain ⟨hx, hb, hml, hr, hts, hown, hlk, hnm, hV, hA0, hA⟩ := id C
  have hown : s.vm.findClass RX8 = some m.cls := hown
  have hK := hV.1
  have hNw := hV.2.1
  unfold fX8_board_18 at hf
  refine lv_ldc hx hb hown (hts _ lkX8_board_0) dX8_board_18 ?_
  obtain ⟨rfl, rfl⟩ := hs_ri hf
  exact hs_iret hx hb hr hlk hB hS dX8_board_20
set_option maxRecDepth 100000 in
set_option maxHeartbeats 4000000 in
theorem wX8_board_47b (fu : Nat) (C : hs_Cx p s m args meth c X A yX8_board cX8_board 6 (some .int) wsX8_board) (hem : ad hs_em = X.2.2.1.2.2.2) (k33 : hs_T → Nat → Int32 → Int32 → Int32 → Option (Int32 × hs_T)) (hk33 : ∀ (σ : hs_T) (x0 : Nat) (x1 : Int32) (x2 : Int32) (x3 : Int32) (H : Heap) (locs : List Loc) (ls : Array Slot), k33 σ x0 x1 x2 x3 = some (r, τ) → hs_H X.1 X.2.1 ad A σ H → va_S A s.heap H locs → lv_has ls 6 [(0, .ref (ad x0)), (1, .int x1), (2, .int x2), (3, .int x3)] → W p l e rmX8_board s m args below meth c H locs 0 0 (MQ below (hs_Q0 hs_tvi X ad A r τ) args s 0 0 A) (F0 m 33 ls [])) (k47 : hs_T → Nat → Int32 → Int32 → Int32 → Int32 → Int32 → Option (Int32 × hs_T)) (hk47 : ∀ (σ : hs_T) (x0 : Nat) (x1 : Int32) (x2 : Int32) (x3 : Int32) (x4 : Int32) (x5 : Int32) (H : Heap) (locs : List Loc) (ls : Array Slot), k47 σ x0 x1 x2 x3 x4 x5 = some (r, τ) → hs_H X.1 X.2.1 ad A σ H → va_S A s.heap H locs → lv_has ls 6 [(0, .ref (ad x0)), (1, .int x1), (2, .int x2), (3, .int x3), (4, .int x4), (5, .int x5)] → W p l e rmX8_board s m args below meth c H locs 0 0 (MQ below (hs_Q0 hs_tvi X ad A r τ) args s 0 0 A) (F0 m 47 ls [])) {H : Heap} {locs : List Loc} {ls : Array Slot} (σ : hs_T) (x0 : Nat) (x1 : Int32) (x2 : Int32) (x3 : Int32) (x4 : Int32) (x5 : Int32) (hf : fX8_board_47b fu k33 k47 σ x0 x1 x2 x3 x4 x5 = some (r, τ)) (hB : hs_H X.1 X.2.1 ad A σ H) (hS : va_S A s.heap H locs) (hl : lv_has ls 6 [(0, .ref (ad x0)), (1, .int x1), (2, .int x2), (3, .int x3), (4, .int x4), (5, .int x5)]) : W p l e rmX8_board s m args below meth c H locs 0 0 (MQ below (hs_Q0 hs_tvi X ad A r τ) args s 0 0 A) (F0 m 47 ls []) := by
  obtain ⟨hx, hb, hml, hr, hts, hown, hlk, hnm, hV, hA0, hA⟩ := id C
  have hown : s.vm.findClass RX8 = some m.cls := hown
  have hK := hV.1
  have hNw := hV.2.1
  unfold fX8_board_47b at hf
  refine lv_iload hx hb dX8_board_47 (lv_at hl 5 rfl) ?_
  refine lv_aload_n hx hb dX8_board_49 rfl (lv_at hl 0 rfl) ?_
  obtain ⟨v21, h20, hf⟩ := hs_bi hf
  refine x_getI hx hb hts inX8_board_X8 hown hK hB (by decide) rfl (k := 0) (by decide) rfl h20 (hts _ lkX8_board_2) (fun _ h9 => h9) dX8_board_50 ?_
  refine lv_icmp_ge (tgt := 106) hx hb dX8_board_53 (by decide) (fun h22 => ?_) (fun h22 => ?_)
  · have hf := hs_tt h22 hf
    refine lv_iload hx hb dX8_board_106 (lv_at hl 4 rfl) ?_
    refine lv_iload_n hx hb dX8_board_108 rfl (lv_at hl 1 rfl) ?_
    refine lv_icmp_ne (tgt := 126) hx hb dX8_board_109 (by decide) (fun h23 => ?_) (fun h23 => ?_)
    · have hf := hs_ff h23 hf
      refine lv_iinc (v := (x3 + 1)) (lv' := [(3, .int (x3 + 1)), (0, .ref (ad x0)), (1, .int x1), (2, .int x2), (4, .int x4), (5, .int x5)]) hx hb dX8_board_126 hl (k := 3) rfl rfl (by decide) rfl (fun ls hl => ?_)
      refine lv_goto (tgt := 33) hx hb dX8_board_129 (by decide) ?_
      exact hk33 σ x0 x1 x2 (x3 + 1) _ _ _ hf hB hS (lv_sub hl [1, 2, 3, 0] rfl)
    · have hf := hs_tt h23 hf
      refine lv_iload_n hx hb dX8_board_112 rfl (lv_at hl 2 rfl) ?_
      refine lv_if_ne (tgt := 120) hx hb dX8_board_113 (by decide) (fun h24 => ?_) (fun h24 => ?_)
      · have hf := hs_ff h24 hf
        refine lv_aload_n hx hb dX8_board_120 rfl (lv_at hl 0 rfl) ?_
        refine lv_iload_n hx hb dX8_board_121 rfl (lv_at hl 3 rfl) ?_
        obtain ⟨_, h27, hf⟩ := hs_bi hf
        obtain ⟨v28, σ26, h25, hf⟩ := hs_b2i hf
        refine hs_call0 (va_runV (As := [.int x3]) (rest := []) ⟨hx, hb, hml, hown, hts⟩ (ctX8_sum l fu σ x0 x3 X ad H.size _ _ h25) (cwV 1 hts gX8_board_X8_sum rfl rfl rfl (by decide +kernel) ⟨Nat.le_of_ble_eq_true rfl, Nat.le_of_ble_eq_true rfl⟩) (hs_preV (hs_recv hK hB (hs_ck_i h27) (by decide) rfl) hV hB hS hA0 hA hem) rfl rfl hl.1 rfl (lv_room (Nat.le_of_ble_eq_true rfl)) dX8_board_122 ⟨Nat.le_of_ble_eq_true rfl, Nat.le_of_ble_eq_true rfl⟩) hB hS hA rfl (fun H locs hB hS => ?_)
        obtain ⟨rfl, rfl⟩ := hs_ri hf
        exact hs_iret hx hb hr hlk hB hS dX8_board_125
      · have hf := hs_tt h24 hf
        refine lv_iload_n hx hb dX8_board_116 rfl (lv_at hl 3 rfl) ?_
        refine lv_goto (tgt := 125) hx hb dX8_board_117 (by decide) ?_
        obtain ⟨rfl, rfl⟩ := hs_ri hf
        exact hs_iret hx hb hr hlk hB hS dX8_board_125
  · have hf := hs_ff h22 hf
    refine lv_iload hx hb dX8_board_56 (lv_at hl 4 rfl) ?_
    refine lv_aload_n hx hb dX8_board_58 rfl (lv_at hl 0 rfl) ?_
    refine lv_iload hx hb dX8_board_59 (lv_at hl 5 rfl) ?_
    obtain ⟨_, h31, hf⟩ := hs_bi hf
    obtain ⟨v32, σ30, h29, hf⟩ := hs_b2i hf
    refine hs_call0 (va_runV (As := [.int x5]) (rest := [.int x4]) ⟨hx, hb, hml, hown, hts⟩ (ctX8_sum l fu σ x0 x5 X ad H.size _ _ h29) (cwV 1 hts gX8_board_X8_sum rfl rfl rfl (by decide +kernel) ⟨Nat.le_of_ble_eq_true rfl, Nat.le_of_ble_eq_true rfl⟩) (hs_preV (hs_recv hK hB (hs_ck_i h31) (by decide) rfl) hV hB hS hA0 hA hem) rfl rfl hl.1 rfl (lv_room (Nat.le_of_ble_eq_true rfl)) dX8_board_61 ⟨Nat.le_of_ble_eq_true rfl, Nat.le_of_ble_eq_true rfl⟩) hB hS hA rfl (fun H locs hB hS => ?_)
    refine lv_aload_n hx hb dX8_board_64 rfl (lv_at hl 0 rfl) ?_
    refine lv_iload_n hx hb dX8_board_65 rfl (lv_at hl 3 rfl) ?_
    obtain ⟨_, h35, hf⟩ := hs_bi hf
    obtain ⟨v36, σ34, h33, hf⟩ := hs_b2i hf
    refine hs_call0 (va_runV (As := [.int x3]) (rest := [.int v32, .int x4]) ⟨hx, hb, hml, hown, hts⟩ (ctX8_sum l fu σ30 x0 x3 X ad H.size _ _ h33) (cwV 1 hts gX8_board_X8_sum rfl rfl rfl (by decide +kernel) ⟨Nat.le_of_ble_eq_true rfl, Nat.le_of_ble_eq_true rfl⟩) (hs_preV (hs_recv hK hB (hs_ck_i h35) (by decide) rfl) hV hB hS hA0 hA hem) rfl rfl hl.1 rfl (lv_room (Nat.le_of_ble_eq_true rfl)) dX8_board_66 ⟨Nat.le_of_ble_eq_true rfl, Nat.le_of_ble_eq_true rfl⟩) hB hS hA rfl (fun H locs hB hS => ?_)
    refine lv_icmp_gt (tgt := 92) hx hb dX8_board_69 (by decide) (fun h37 => ?_) (fun h37 => ?_)
    · have hf := hs_tt h37 hf
      refine lv_iconst (v := 1) hx hb dX8_board_92 (by decide) ?_
      refine lv_goto (tgt := 97) hx hb dX8_board_93 (by decide) ?_
      refine lv_iadd hx hb dX8_board_97 ?_
      refine lv_istore (lv' := [(4, .int (x4 + 1)), (0, .ref (ad x0)), (1, .int x1), (2, .int x2), (3, .int x3), (5, .int x5)]) hx hb dX8_board_98 hl (by decide) rfl (fun ls hl => ?_)
      refine lv_iinc (v := (x5 + 1)) (lv' := [(5, .int (x5 + 1)), (4, .int (x4 + 1)), (0, .ref (ad x0)), (1, .int x1), (2, .int x2), (3, .int x3)]) hx hb dX8_board_100 hl (k := 5) rfl rfl (by decide) rfl (fun ls hl => ?_)
      refine lv_goto (tgt := 47) hx hb dX8_board_103 (by decide) ?_
      exact hk47 σ34 x0 x1 x2 x3 (x4 + 1) (x5 + 1) _ _ _ hf hB hS (lv_sub hl [2, 3, 4, 5, 1, 0] rfl)
    · have hf := hs_ff h37 hf
      refine lv_aload_n hx hb dX8_board_72 rfl (lv_at hl 0 rfl) ?_
      refine lv_iload hx hb dX8_board_73 (lv_at hl 5 rfl) ?_
      obtain ⟨_, h40, hf⟩ := hs_bi hf
      obtain ⟨v41, σ39, h38, hf⟩ := hs_b2i hf
      refine hs_call0 (va_runV (As := [.int x5]) (rest := [.int x4]) ⟨hx, hb, hml, hown, hts⟩ (ctX8_sum l fu σ34 x0 x5 X ad H.size _ _ h38) (cwV 1 hts gX8_board_X8_sum rfl rfl rfl (by decide +kernel) ⟨Nat.le_of_ble_eq_true rfl, Nat.le_of_ble_eq_true rfl⟩) (hs_preV (hs_recv hK hB (hs_ck_i h40) (by decide) rfl) hV hB hS hA0 hA hem) rfl rfl hl.1 rfl (lv_room (Nat.le_of_ble_eq_true rfl)) dX8_board_75 ⟨Nat.le_of_ble_eq_true rfl, Nat.le_of_ble_eq_true rfl⟩) hB hS hA rfl (fun H locs hB hS => ?_)
      refine lv_aload_n hx hb dX8_board_78 rfl (lv_at hl 0 rfl) ?_
      refine lv_iload_n hx hb dX8_board_79 rfl (lv_at hl 3 rfl) ?_
      obtain ⟨_, h44, hf⟩ := hs_bi hf
      obtain ⟨v45, σ43, h42, hf⟩ := hs_b2i hf
      refine hs_call0 (va_runV (As := [.int x3]) (rest := [.int v41, .int x4]) ⟨hx, hb, hml, hown, hts⟩ (ctX8_sum l fu σ39 x0 x3 X ad H.size _ _ h42) (cwV 1 hts gX8_board_X8_sum rfl rfl rfl (by decide +kernel) ⟨Nat.le_of_ble_eq_true rfl, Nat.le_of_ble_eq_true rfl⟩) (hs_preV (hs_recv hK hB (hs_ck_i h44) (by decide) rfl) hV hB hS hA0 hA hem) rfl rfl hl.1 rfl (lv_room (Nat.le_of_ble_eq_true rfl)) dX8_board_80 ⟨Nat.le_of_ble_eq_true rfl, Nat.le_of_ble_eq_true rfl⟩) hB hS hA rfl (fun H locs hB hS => ?_)
      refine lv_icmp_ne (tgt := 96) hx hb dX8_board_83 (by decide) (fun h46 => ?_) (fun h46 => ?_)
      · have hf := hs_ff h46 hf
        refine lv_iconst (v := 0) hx hb dX8_board_96 (by decide) ?_
        refine lv_iadd hx hb dX8_board_97 ?_
        refine lv_istore (lv' := [(4, .int (x4 + 0)), (0, .ref (ad x0)), (1, .int x1), (2, .int x2), (3, .int x3), (5, .int x5)]) hx hb dX8_board_98 hl (by decide) rfl (fun ls hl => ?_)
        refine lv_iinc (v := (x5 + 1)) (lv' := [(5, .int (x5 + 1)), (4, .int (x4 + 0)), (0, .ref (ad x0)), (1, .int x1), (2, .int x2), (3, .int x3)]) hx hb dX8_board_100 hl (k := 5) rfl rfl (by decide) rfl (fun ls hl => ?_)
        refine lv_goto (tgt := 47) hx hb dX8_board_103 (by decide) ?_
        exact hk47 σ43 x0 x1 x2 x3 (x4 + 0) (x5 + 1) _ _ _ hf hB hS (lv_sub hl [2, 3, 4, 5, 1, 0] rfl)
      · have hf := hs_tt h46 hf
        refine lv_iload hx hb dX8_board_86 (lv_at hl 5 rfl) ?_
        refine lv_iload_n hx hb dX8_board_88 rfl (lv_at hl 3 rfl) ?_
        refine lv_icmp_ge (tgt := 96) hx hb dX8_board_89 (by decide) (fun h47 => ?_) (fun h47 => ?_)
        · have hf := hs_tt h47 hf
          refine lv_iconst (v := 0) hx hb dX8_board_96 (by decide) ?_
          refine lv_iadd hx hb dX8_board_97 ?_
          refine lv_istore (lv' := [(4, .int (x4 + 0)), (0, .ref (ad x0)), (1, .int x1), (2, .int x2), (3, .int x3), (5, .int x5)]) hx hb dX8_board_98 hl (by decide) rfl (fun ls hl => ?_)
          refine lv_iinc (v := (x5 + 1)) (lv' := [(5, .int (x5 + 1)), (4, .int (x4 + 0)), (0, .ref (ad x0)), (1, .int x1), (2, .int x2), (3, .int x3)]) hx hb dX8_board_100 hl (k := 5) rfl rfl (by decide) rfl (fun ls hl => ?_)
          refine lv_goto (tgt := 47) hx hb dX8_board_103 (by decide) ?_
          exact hk47 σ43 x0 x1 x2 x3 (x4 + 0) (x5 + 1) _ _ _ hf hB hS (lv_sub hl [2, 3, 4, 5, 1, 0] rfl)
        · have hf := hs_ff h47 hf
          refine lv_iconst (v := 1) hx hb dX8_board_92 (by decide) ?_
          refine lv_goto (tgt := 97) hx hb dX8_board_93 (by decide) ?_
          refine lv_iadd hx hb dX8_board_97 ?_
          refine lv_istore (lv' := [(4, .int (x4 + 1)), (0, .ref (ad x0)), (1, .int x1), (2, .int x2), (3, .int x3), (5, .int x5)]) hx hb dX8_board_98 hl (by decide) rfl (fun ls hl => ?_)
          refine lv_iinc (v := (x5 + 1)) (lv' := [(5, .int (x5 + 1)), (4, .int (x4 + 1)), (0, .ref (ad x0)), (1, .int x1), (2, .int x2), (3, .int x3)]) hx hb dX8_board_100 hl (k := 5) rfl rfl (by decide) rfl (fun ls hl => ?_)
          refine lv_goto (tgt := 47) hx hb dX8_board_103 (by decide) ?_
          exact hk47 σ43 x0 x1 x2 x3 (x4 + 1) (x5 + 1) _ _ _ hf hB hS (lv_sub hl [2, 3, 4, 5, 1, 0] rfl)
set_option maxRecDepth 100000 in
set_option maxHeartbeats 4000000 in
theorem wX8_board_47 (fu : Nat) (C : hs_Cx p s m args meth c X A yX8_board cX8_board 6 (some .int) wsX8_board) (hem : ad hs_em = X.2.2.1.2.2.2) (k33 : hs_T → Nat → Int32 → Int32 → Int32 → Option (Int32 × hs_T)) (hk33 : ∀ (σ : hs_T) (x0 : Nat) (x1 : Int32) (x2 : Int32) (x3 : Int32) (H : Heap) (locs : List Loc) (ls : Array Slot), k33 σ x0 x1 x2 x3 = some (r, τ) → hs_H X.1 X.2.1 ad A σ H → va_S A s.heap H locs → lv_has ls 6 [(0, .ref (ad x0)), (1, .int x1), (2, .int x2), (3, .int x3)] → W p l e rmX8_board s m args below meth c H locs 0 0 (MQ below (hs_Q0 hs_tvi X ad A r τ) args s 0 0 A) (F0 m 33 ls [])) {H : Heap} {locs : List Loc} {ls : Array Slot} (σ : hs_T) (x0 : Nat) (x1 : Int32) (x2 : Int32) (x3 : Int32) (x4 : Int32) (x5 : Int32) (hf : fX8_board_47 fu k33 σ x0 x1 x2 x3 x4 x5 = some (r, τ)) (hB : hs_H X.1 X.2.1 ad A σ H) (hS : va_S A s.heap H locs) (hl : lv_has ls 6 [(0, .ref (ad x0)), (1, .int x1), (2, .int x2), (3, .int x3), (4, .int x4), (5, .int x5)]) : W p l e rmX8_board s m args below meth c H locs 0 0 (MQ below (hs_Q0 hs_tvi X ad A r τ) args s 0 0 A) (F0 m 47 ls []) := by
  unfold fX8_board_47 at hf
  exact hs_lp_i (P := fun a => ∀ (H : Heap) (locs : List Loc) (ls : Array Slot), hs_H X.1 X.2.1 ad A a.1 H → va_S A s.heap H locs → lv_has ls 6 [(0, .ref (ad a.2.1)), (1, .int a.2.2.1), (2, .int a.2.2.2.1), (3, .int a.2.2.2.2.1), (4, .int a.2.2.2.2.2.1), (5, .int a.2.2.2.2.2.2)] → W p l e rmX8_board s m args below meth c H locs 0 0 (MQ below (hs_Q0 hs_tvi X ad A r τ) args s 0 0 A) (F0 m 47 ls [])) (fun k a hk hf H locs ls hB hS hl => wX8_board_47b fu C hem k33 hk33 _ (fun σ x0 x1 x2 x3 x4 x5 H locs ls hf hB hS hl => hk (σ, x0, x1, x2, x3, x4, x5) hf H locs ls hB hS hl) a.1 a.2.1 a.2.2.1 a.2.2.2.1 a.2.2.2.2.1 a.2.2.2.2.2.1 a.2.2.2.2.2.2 hf hB hS hl) fu (σ, x0, x1, x2, x3, x4, x5) hf H locs ls hB hS hl
set_option maxRecDepth 100000 in
set_option maxHeartbeats 4000000 in
theorem wX8_board_33b (fu : Nat) (C : hs_Cx p s m args meth c X A yX8_board cX8_board 6 (some .int) wsX8_board) (hem : ad hs_em = X.2.2.1.2.2.2)  (k33 : hs_T → Nat → Int32 → Int32 → Int32 → Option (Int32 × hs_T)) (hk33 : ∀ (σ : hs_T) (x0 : Nat) (x1 : Int32) (x2 : Int32) (x3 : Int32) (H : Heap) (locs : List Loc) (ls : Array Slot), k33 σ x0 x1 x2 x3 = some (r, τ) → hs_H X.1 X.2.1 ad A σ H → va_S A s.heap H locs → lv_has ls 6 [(0, .ref (ad x0)), (1, .int x1), (2, .int x2), (3, .int x3)] → W p l e rmX8_board s m args below meth c H locs 0 0 (MQ below (hs_Q0 hs_tvi X ad A r τ) args s 0 0 A) (F0 m 33 ls [])) {H : Heap} {locs : List Loc} {ls : Array Slot} (σ : hs_T) (x0 : Nat) (x1 : Int32) (x2 : Int32) (x3 : Int32) (hf : fX8_board_33b fu  k33 σ x0 x1 x2 x3 = some (r, τ)) (hB : hs_H X.1 X.2.1 ad A σ H) (hS : va_S A s.heap H locs) (hl : lv_has ls 6 [(0, .ref (ad x0)), (1, .int x1), (2, .int x2), (3, .int x3)]) : W p l e rmX8_board s m args below meth c H locs 0 0 (MQ below (hs_Q0 hs_tvi X ad A r τ) args s 0 0 A) (F0 m 33 ls []) := by
  obtain ⟨hx, hb, hml, hr, hts, hown, hlk, hnm, hV, hA0, hA⟩ := id C
  have hown : s.vm.findClass RX8 = some m.cls := hown
  have hK := hV.1
  have hNw := hV.2.1
  unfold fX8_board_33b at hf
  refine lv_iload_n hx hb dX8_board_33 rfl (lv_at hl 3 rfl) ?_
  refine lv_aload_n hx hb dX8_board_34 rfl (lv_at hl 0 rfl) ?_
  obtain ⟨v18, h17, hf⟩ := hs_bi hf
  refine x_getI hx hb hts inX8_board_X8 hown hK hB (by decide) rfl (k := 0) (by decide) rfl h17 (hts _ lkX8_board_2) (fun _ h9 => h9) dX8_board_35 ?_
  refine lv_icmp_ge (tgt := 132) hx hb dX8_board_38 (by decide) (fun h19 => ?_) (fun h19 => ?_)
  · have hf := hs_tt h19 hf
    refine lv_ldc hx hb hown (hts _ lkX8_board_0) dX8_board_132 ?_
    obtain ⟨rfl, rfl⟩ := hs_ri hf
    exact hs_iret hx hb hr hlk hB hS dX8_board_134
  · have hf := hs_ff h19 hf
    refine lv_iconst (v := 0) hx hb dX8_board_41 (by decide) ?_
    refine lv_istore (lv' := [(4, .int 0), (0, .ref (ad x0)), (1, .int x1), (2, .int x2), (3, .int x3)]) hx hb dX8_board_42 hl (by decide) rfl (fun ls hl => ?_)
    refine lv_iconst (v := 0) hx hb dX8_board_44 (by decide) ?_
    refine lv_istore (lv' := [(5, .int 0), (4, .int 0), (0, .ref (ad x0)), (1, .int x1), (2, .int x2), (3, .int x3)]) hx hb dX8_board_45 hl (by decide) rfl (fun ls hl => ?_)
    exact wX8_board_47 fu C hem k33 hk33 σ x0 x1 x2 x3 0 0 hf hB hS (lv_sub hl [2, 3, 4, 5, 1, 0] rfl)
set_option maxRecDepth 100000 in
set_option maxHeartbeats 4000000 in
theorem wX8_board_33 (fu : Nat) (C : hs_Cx p s m args meth c X A yX8_board cX8_board 6 (some .int) wsX8_board) (hem : ad hs_em = X.2.2.1.2.2.2)  {H : Heap} {locs : List Loc} {ls : Array Slot} (σ : hs_T) (x0 : Nat) (x1 : Int32) (x2 : Int32) (x3 : Int32) (hf : fX8_board_33 fu  σ x0 x1 x2 x3 = some (r, τ)) (hB : hs_H X.1 X.2.1 ad A σ H) (hS : va_S A s.heap H locs) (hl : lv_has ls 6 [(0, .ref (ad x0)), (1, .int x1), (2, .int x2), (3, .int x3)]) : W p l e rmX8_board s m args below meth c H locs 0 0 (MQ below (hs_Q0 hs_tvi X ad A r τ) args s 0 0 A) (F0 m 33 ls []) := by
  unfold fX8_board_33 at hf
  exact hs_lp_i (P := fun a => ∀ (H : Heap) (locs : List Loc) (ls : Array Slot), hs_H X.1 X.2.1 ad A a.1 H → va_S A s.heap H locs → lv_has ls 6 [(0, .ref (ad a.2.1)), (1, .int a.2.2.1), (2, .int a.2.2.2.1), (3, .int a.2.2.2.2)] → W p l e rmX8_board s m args below meth c H locs 0 0 (MQ below (hs_Q0 hs_tvi X ad A r τ) args s 0 0 A) (F0 m 33 ls [])) (fun k a hk hf H locs ls hB hS hl => wX8_board_33b fu C hem  _ (fun σ x0 x1 x2 x3 H locs ls hf hB hS hl => hk (σ, x0, x1, x2, x3) hf H locs ls hB hS hl) a.1 a.2.1 a.2.2.1 a.2.2.2.1 a.2.2.2.2 hf hB hS hl) fu (σ, x0, x1, x2, x3) hf H locs ls hB hS hl
set_option maxRecDepth 100000 in
set_option maxHeartbeats 4000000 in
theorem wX8_board_e (fu : Nat) (C : hs_Cx p s m args meth c X A yX8_board cX8_board 6 (some .int) wsX8_board) (hem : ad hs_em = X.2.2.1.2.2.2) {H : Heap} {locs : List Loc} {ls : Array Slot} (σ : hs_T) (o : Nat) (a1 : Int32) (a2 : Int32) (hf : fX8_board fu σ o a1 a2 = some (r, τ)) (hB : hs_H X.1 X.2.1 ad A σ H) (hS : va_S A s.heap H locs) (hl : lv_has ls 6 [(0, .ref (ad o)), (1, .int a1), (2, .int a2)]) : W p l e rmX8_board s m args below meth c H locs 0 0 (MQ below (hs_Q0 hs_tvi X ad A r τ) args s 0 0 A) (F0 m 0 ls []) := by
  obtain ⟨hx, hb, hml, hr, hts, hown, hlk, hnm, hV, hA0, hA⟩ := id C
  have hown : s.vm.findClass RX8 = some m.cls := hown
  have hK := hV.1
  have hNw := hV.2.1
  unfold fX8_board at hf
  refine lv_aload_n hx hb dX8_board_0 rfl (lv_at hl 0 rfl) ?_
  refine lv_iload_n hx hb dX8_board_1 rfl (lv_at hl 1 rfl) ?_
  obtain ⟨_, h3, hf⟩ := hs_bi hf
  obtain ⟨v4, σ2, h1, hf⟩ := hs_b2i hf
  refine hs_call0 (va_runV (As := [.int a1]) (rest := []) ⟨hx, hb, hml, hown, hts⟩ (ctX8_isTeam l fu σ o a1 X ad H.size _ _ h1) (cwV 1 hts gX8_board_X8_isTeam rfl rfl rfl (by decide +kernel) ⟨Nat.le_of_ble_eq_true rfl, Nat.le_of_ble_eq_true rfl⟩) (hs_preV (hs_recv hK hB (hs_ck_i h3) (by decide) rfl) hV hB hS hA0 hA hem) rfl rfl hl.1 rfl (lv_room (Nat.le_of_ble_eq_true rfl)) dX8_board_2 ⟨Nat.le_of_ble_eq_true rfl, Nat.le_of_ble_eq_true rfl⟩) hB hS hA rfl (fun H locs hB hS => ?_)
  refine lv_if_eq (tgt := 18) hx hb dX8_board_5 (by decide) (fun h5 => ?_) (fun h5 => ?_)
  · have hf := hs_tt h5 hf
    exact wX8_board_18 fu C hem σ2  hf hB hS (lv_sub hl [] rfl)
  · have hf := hs_ff h5 hf
    refine lv_iload_n hx hb dX8_board_8 rfl (lv_at hl 2 rfl) ?_
    refine lv_i2l hx hb dX8_board_9 rfl ?_
    refine lv_lconst (v := 0) hx hb dX8_board_10 (by decide) ?_
    refine lv_lconst (v := 1) hx hb dX8_board_11 (by decide) ?_
    obtain ⟨v8, σ7, h6, hf⟩ := hs_b2i hf
    refine hs_call0 (va_runS (As := [.long a2.toInt64, .long 0, .long 1]) (rest := []) ⟨hx, hb, hml, hown, hts⟩ (ctX8_isIn l fu σ2 a2.toInt64 0 1 X ad H.size _ _ h6) (va_cwS 3 hts gX8_board_X8_isIn rfl rfl rfl (by decide +kernel) ⟨Nat.le_of_ble_eq_true rfl, Nat.le_of_ble_eq_true rfl⟩) (hs_pre hV hB hS hA0 hA hem) rfl rfl hl.1 rfl (lv_room (Nat.le_of_ble_eq_true rfl)) dX8_board_12 ⟨Nat.le_of_ble_eq_true rfl, Nat.le_of_ble_eq_true rfl⟩) hB hS hA rfl (fun H locs hB hS => ?_)
    refine lv_if_ne (tgt := 21) hx hb dX8_board_15 (by decide) (fun h9 => ?_) (fun h9 => ?_)
    · have hf := hs_ff h9 hf
      refine lv_aload_n hx hb dX8_board_21 rfl (lv_at hl 0 rfl) ?_
      refine lv_aload_n hx hb dX8_board_22 rfl (lv_at hl 0 rfl) ?_
      obtain ⟨n11, h10, hf⟩ := hs_bi hf
      refine x_getN hx hb hts inX8_board_X8 hown hK hB (by decide) rfl (k := 17) (by decide) rfl h10 (hts _ lkX8_board_1) (fun _ h9 => h9) dX8_board_23 ?_
      refine lv_iconst (v := 3) hx hb dX8_board_26 (by decide) ?_
      obtain ⟨v12, h13, hf⟩ := hs_bi hf
      refine x_iald hx hb hK hB h13 dX8_board_27 ?_
      obtain ⟨_, h16, hf⟩ := hs_bi hf
      obtain ⟨_, σ15, h14, hf⟩ := hs_b2i hf
      refine hs_call0 (va_runV (As := [.int v12]) (rest := []) ⟨hx, hb, hml, hown, hts⟩ (ctX8_findPoints l fu σ7 o v12 X ad H.size _ _ h14) (cwV 1 hts gX8_board_X8_findPoints rfl rfl rfl (by decide +kernel) ⟨Nat.le_of_ble_eq_true rfl, Nat.le_of_ble_eq_true rfl⟩) (hs_preV (hs_recv hK hB (hs_ck_i h16) (by decide) rfl) hV hB hS hA0 hA hem) rfl rfl hl.1 rfl (lv_room (Nat.le_of_ble_eq_true rfl)) dX8_board_28 ⟨Nat.le_of_ble_eq_true rfl, Nat.le_of_ble_eq_true rfl⟩) hB hS hA rfl (fun H locs hB hS => ?_)
      refine lv_iconst (v := 0) hx hb dX8_board_31 (by decide) ?_
      refine lv_istore_n (lv' := [(3, .int 0), (0, .ref (ad o)), (1, .int a1), (2, .int a2)]) hx hb dX8_board_32 rfl hl (by decide) rfl (fun ls hl => ?_)
      exact wX8_board_33 fu C hem σ15 o a1 a2 0 hf hB hS (lv_sub hl [1, 2, 3, 0] rfl)
    · have hf := hs_tt h9 hf
      exact wX8_board_18 fu C hem σ7  hf hB hS (lv_sub hl [] rfl)
end SX8_board
set_option maxRecDepth 100000 in
theorem ctX8_board (l : Launch) (fu : Nat) (σ : hs_T) (o : Nat) (a1 : Int32) (a2 : Int32) : hs_C0 hs_tvi l yX8_board wsX8_board rmX8_board (fun ad => [.ref (ad o), .int a1, .int a2]) σ (fX8_board fu σ o a1 a2) := by
  intro X ad sz r τ hf
  refine hs_enter (cc := cX8_board) (maxL := 6) (ret := (some .int)) (by decide) rfl (Nat.le_of_ble_eq_true rfl) ?_
  intro p e s m below meth c ls C hl hem hB hS hsz
  exact wX8_board_e fu C hem σ o a1 a2 hf hB hS hl
/-! ServiceGameModel.sumOf(I)I -/
abbrev rmX8_sumOf : Room := { frames := 4, cells := 0, slots := 0, locals := 96 }
theorem inX8_sumOf_X8 : ∀ w ∈ wsX80, w ∈ wsX8_sumOf := fun _ h => List.mem_cons_of_mem _ (List.mem_append_right _ h)
theorem lkX8_sumOf_0 : Cond.fieldLink RX8 104 "ServiceGameModel" "teams" "I" ∈ wsX8_sumOf := by decide +kernel
def fX8_sumOf_11b (fu : Nat)  (k11 : hs_T → Nat → Int32 → Int32 → Int32 → Option (Int32 × hs_T)) (σ : hs_T) (x0 : Nat) (x1 : Int32) (x2 : Int32) (x3 : Int32) : Option (Int32 × hs_T) :=
 (hs_gI σ 10 x0 0).bind fun v5 =>
 if v5 ≤ x3 then
 (some (x2, σ))
 else
 (if ((x1 >>> (x3 &&& 31)) &&& 1) = 1 then
 ((hs_ck σ 10 x0).bind fun _ =>
 hs_b2 (fX8_sum fu σ x0 x3) fun v11 σ9 =>
 k11 σ9 x0 x1 (x2 + v11) (x3 + 1))
 else
 (k11 σ x0 x1 (x2 + 0) (x3 + 1)))
def fX8_sumOf_11 (fu : Nat)  (σ : hs_T) (x0 : Nat) (x1 : Int32) (x2 : Int32) (x3 : Int32) : Option (Int32 × hs_T) :=
   hs_lp (fun (k : hs_T × Nat × Int32 × Int32 × Int32 → Option (Int32 × hs_T)) (a : hs_T × Nat × Int32 × Int32 × Int32) => fX8_sumOf_11b fu  (fun σ x0 x1 x2 x3 => k (σ, x0, x1, x2, x3)) a.1 a.2.1 a.2.2.1 a.2.2.2.1 a.2.2.2.2) fu (σ, x0, x1, x2, x3)
def fX8_sumOf (fu : Nat) (σ : hs_T) (o : Nat) (a1 : Int32) : Option (Int32 × hs_T) :=
 (hs_ck σ 10 o).bind fun _ =>
 hs_b2 (fX8_findPoints fu σ o 1000) fun _ σ2 =>
 fX8_sumOf_11 fu σ2 o a1 0 0
section SX8_sumOf
variable {p : Program} {l : Launch} {e : Env} {s : State} {m : MethodId} {args : Array Value} {below : List Frame} {meth : Method} {c : Code} {X : hs_X} {ad : Nat → Nat} {A : Nat → Prop} {r : Int32} {τ : hs_T}
set_option maxRecDepth 100000 in
set_option maxHeartbeats 4000000 in
theorem wX8_sumOf_11b (fu : Nat) (C : hs_Cx p s m args meth c X A yX8_sumOf cX8_sumOf 4 (some .int) wsX8_sumOf) (hem : ad hs_em = X.2.2.1.2.2.2)  (k11 : hs_T → Nat → Int32 → Int32 → Int32 → Option (Int32 × hs_T)) (hk11 : ∀ (σ : hs_T) (x0 : Nat) (x1 : Int32) (x2 : Int32) (x3 : Int32) (H : Heap) (locs : List Loc) (ls : Array Slot), k11 σ x0 x1 x2 x3 = some (r, τ) → hs_H X.1 X.2.1 ad A σ H → va_S A s.heap H locs → lv_has ls 4 [(0, .ref (ad x0)), (1, .int x1), (2, .int x2), (3, .int x3)] → W p l e rmX8_sumOf s m args below meth c H locs 0 0 (MQ below (hs_Q0 hs_tvi X ad A r τ) args s 0 0 A) (F0 m 11 ls [])) {H : Heap} {locs : List Loc} {ls : Array Slot} (σ : hs_T) (x0 : Nat) (x1 : Int32) (x2 : Int32) (x3 : Int32) (hf : fX8_sumOf_11b fu  k11 σ x0 x1 x2 x3 = some (r, τ)) (hB : hs_H X.1 X.2.1 ad A σ H) (hS : va_S A s.heap H locs) (hl : lv_has ls 4 [(0, .ref (ad x0)), (1, .int x1), (2, .int x2), (3, .int x3)]) : W p l e rmX8_sumOf s m args below meth c H locs 0 0 (MQ below (hs_Q0 hs_tvi X ad A r τ) args s 0 0 A) (F0 m 11 ls []) := by
  obtain ⟨hx, hb, hml, hr, hts, hown, hlk, hnm, hV, hA0, hA⟩ := id C
  have hown : s.vm.findClass RX8 = some m.cls := hown
  have hK := hV.1
  have hNw := hV.2.1
  unfold fX8_sumOf_11b at hf
  refine lv_iload_n hx hb dX8_sumOf_11 rfl (lv_at hl 3 rfl) ?_
  refine lv_aload_n hx hb dX8_sumOf_12 rfl (lv_at hl 0 rfl) ?_
  obtain ⟨v5, h4, hf⟩ := hs_bi hf
  refine x_getI hx hb hts inX8_sumOf_X8 hown hK hB (by decide) rfl (k := 0) (by decide) rfl h4 (hts _ lkX8_sumOf_0) (fun _ h9 => h9) dX8_sumOf_13 ?_
  refine lv_icmp_ge (tgt := 46) hx hb dX8_sumOf_16 (by decide) (fun h6 => ?_) (fun h6 => ?_)
  · have hf := hs_tt h6 hf
    refine lv_iload_n hx hb dX8_sumOf_46 rfl (lv_at hl 2 rfl) ?_
    obtain ⟨rfl, rfl⟩ := hs_ri hf
    exact hs_iret hx hb hr hlk hB hS dX8_sumOf_47
  · have hf := hs_ff h6 hf
    refine lv_iload_n hx hb dX8_sumOf_19 rfl (lv_at hl 2 rfl) ?_
    refine lv_iload_n hx hb dX8_sumOf_20 rfl (lv_at hl 1 rfl) ?_
    refine lv_iload_n hx hb dX8_sumOf_21 rfl (lv_at hl 3 rfl) ?_
    refine lv_ishr hx hb dX8_sumOf_22 ?_
    refine lv_iconst (v := 1) hx hb dX8_sumOf_23 (by decide) ?_
    refine lv_iand hx hb dX8_sumOf_24 ?_
    refine lv_iconst (v := 1) hx hb dX8_sumOf_25 (by decide) ?_
    refine lv_icmp_ne (tgt := 37) hx hb dX8_sumOf_26 (by decide) (fun h7 => ?_) (fun h7 => ?_)
    · have hf := hs_ff h7 hf
      refine lv_iconst (v := 0) hx hb dX8_sumOf_37 (by decide) ?_
      refine lv_iadd hx hb dX8_sumOf_38 ?_
      refine lv_istore_n (lv' := [(2, .int (x2 + 0)), (0, .ref (ad x0)), (1, .int x1), (3, .int x3)]) hx hb dX8_sumOf_39 rfl hl (by decide) rfl (fun ls hl => ?_)
      refine lv_iinc (v := (x3 + 1)) (lv' := [(3, .int (x3 + 1)), (2, .int (x2 + 0)), (0, .ref (ad x0)), (1, .int x1)]) hx hb dX8_sumOf_40 hl (k := 3) rfl rfl (by decide) rfl (fun ls hl => ?_)
      refine lv_goto (tgt := 11) hx hb dX8_sumOf_43 (by decide) ?_
      exact hk11 σ x0 x1 (x2 + 0) (x3 + 1) _ _ _ hf hB hS (lv_sub hl [2, 3, 1, 0] rfl)
    · have hf := hs_tt h7 hf
      refine lv_aload_n hx hb dX8_sumOf_29 rfl (lv_at hl 0 rfl) ?_
      refine lv_iload_n hx hb dX8_sumOf_30 rfl (lv_at hl 3 rfl) ?_
      obtain ⟨_, h10, hf⟩ := hs_bi hf
      obtain ⟨v11, σ9, h8, hf⟩ := hs_b2i hf
      refine hs_call0 (va_runV (As := [.int x3]) (rest := [.int x2]) ⟨hx, hb, hml, hown, hts⟩ (ctX8_sum l fu σ x0 x3 X ad H.size _ _ h8) (cwV 1 hts gX8_sumOf_X8_sum rfl rfl rfl (by decide +kernel) ⟨Nat.le_of_ble_eq_true rfl, Nat.le_of_ble_eq_true rfl⟩) (hs_preV (hs_recv hK hB (hs_ck_i h10) (by decide) rfl) hV hB hS hA0 hA hem) rfl rfl hl.1 rfl (lv_room (Nat.le_of_ble_eq_true rfl)) dX8_sumOf_31 ⟨Nat.le_of_ble_eq_true rfl, Nat.le_of_ble_eq_true rfl⟩) hB hS hA rfl (fun H locs hB hS => ?_)
      refine lv_goto (tgt := 38) hx hb dX8_sumOf_34 (by decide) ?_
      refine lv_iadd hx hb dX8_sumOf_38 ?_
      refine lv_istore_n (lv' := [(2, .int (x2 + v11)), (0, .ref (ad x0)), (1, .int x1), (3, .int x3)]) hx hb dX8_sumOf_39 rfl hl (by decide) rfl (fun ls hl => ?_)
      refine lv_iinc (v := (x3 + 1)) (lv' := [(3, .int (x3 + 1)), (2, .int (x2 + v11)), (0, .ref (ad x0)), (1, .int x1)]) hx hb dX8_sumOf_40 hl (k := 3) rfl rfl (by decide) rfl (fun ls hl => ?_)
      refine lv_goto (tgt := 11) hx hb dX8_sumOf_43 (by decide) ?_
      exact hk11 σ9 x0 x1 (x2 + v11) (x3 + 1) _ _ _ hf hB hS (lv_sub hl [2, 3, 1, 0] rfl)
set_option maxRecDepth 100000 in
set_option maxHeartbeats 4000000 in
theorem wX8_sumOf_11 (fu : Nat) (C : hs_Cx p s m args meth c X A yX8_sumOf cX8_sumOf 4 (some .int) wsX8_sumOf) (hem : ad hs_em = X.2.2.1.2.2.2)  {H : Heap} {locs : List Loc} {ls : Array Slot} (σ : hs_T) (x0 : Nat) (x1 : Int32) (x2 : Int32) (x3 : Int32) (hf : fX8_sumOf_11 fu  σ x0 x1 x2 x3 = some (r, τ)) (hB : hs_H X.1 X.2.1 ad A σ H) (hS : va_S A s.heap H locs) (hl : lv_has ls 4 [(0, .ref (ad x0)), (1, .int x1), (2, .int x2), (3, .int x3)]) : W p l e rmX8_sumOf s m args below meth c H locs 0 0 (MQ below (hs_Q0 hs_tvi X ad A r τ) args s 0 0 A) (F0 m 11 ls []) := by
  unfold fX8_sumOf_11 at hf
  exact hs_lp_i (P := fun a => ∀ (H : Heap) (locs : List Loc) (ls : Array Slot), hs_H X.1 X.2.1 ad A a.1 H → va_S A s.heap H locs → lv_has ls 4 [(0, .ref (ad a.2.1)), (1, .int a.2.2.1), (2, .int a.2.2.2.1), (3, .int a.2.2.2.2)] → W p l e rmX8_sumOf s m args below meth c H locs 0 0 (MQ below (hs_Q0 hs_tvi X ad A r τ) args s 0 0 A) (F0 m 11 ls [])) (fun k a hk hf H locs ls hB hS hl => wX8_sumOf_11b fu C hem  _ (fun σ x0 x1 x2 x3 H locs ls hf hB hS hl => hk (σ, x0, x1, x2, x3) hf H locs ls hB hS hl) a.1 a.2.1 a.2.2.1 a.2.2.2.1 a.2.2.2.2 hf hB hS hl) fu (σ, x0, x1, x2, x3) hf H locs ls hB hS hl
set_option maxRecDepth 100000 in
set_option maxHeartbeats 4000000 in
theorem wX8_sumOf_e (fu : Nat) (C : hs_Cx p s m args meth c X A yX8_sumOf cX8_sumOf 4 (some .int) wsX8_sumOf) (hem : ad hs_em = X.2.2.1.2.2.2) {H : Heap} {locs : List Loc} {ls : Array Slot} (σ : hs_T) (o : Nat) (a1 : Int32) (hf : fX8_sumOf fu σ o a1 = some (r, τ)) (hB : hs_H X.1 X.2.1 ad A σ H) (hS : va_S A s.heap H locs) (hl : lv_has ls 4 [(0, .ref (ad o)), (1, .int a1)]) : W p l e rmX8_sumOf s m args below meth c H locs 0 0 (MQ below (hs_Q0 hs_tvi X ad A r τ) args s 0 0 A) (F0 m 0 ls []) := by
  obtain ⟨hx, hb, hml, hr, hts, hown, hlk, hnm, hV, hA0, hA⟩ := id C
  have hown : s.vm.findClass RX8 = some m.cls := hown
  have hK := hV.1
  have hNw := hV.2.1
  unfold fX8_sumOf at hf
  refine lv_aload_n hx hb dX8_sumOf_0 rfl (lv_at hl 0 rfl) ?_
  refine lv_sipush (v := 1000) hx hb dX8_sumOf_1 (by decide) ?_
  obtain ⟨_, h3, hf⟩ := hs_bi hf
  obtain ⟨_, σ2, h1, hf⟩ := hs_b2i hf
  refine hs_call0 (va_runV (As := [.int 1000]) (rest := []) ⟨hx, hb, hml, hown, hts⟩ (ctX8_findPoints l fu σ o 1000 X ad H.size _ _ h1) (cwV 1 hts gX8_sumOf_X8_findPoints rfl rfl rfl (by decide +kernel) ⟨Nat.le_of_ble_eq_true rfl, Nat.le_of_ble_eq_true rfl⟩) (hs_preV (hs_recv hK hB (hs_ck_i h3) (by decide) rfl) hV hB hS hA0 hA hem) rfl rfl hl.1 rfl (lv_room (Nat.le_of_ble_eq_true rfl)) dX8_sumOf_4 ⟨Nat.le_of_ble_eq_true rfl, Nat.le_of_ble_eq_true rfl⟩) hB hS hA rfl (fun H locs hB hS => ?_)
  refine lv_iconst (v := 0) hx hb dX8_sumOf_7 (by decide) ?_
  refine lv_istore_n (lv' := [(2, .int 0), (0, .ref (ad o)), (1, .int a1)]) hx hb dX8_sumOf_8 rfl hl (by decide) rfl (fun ls hl => ?_)
  refine lv_iconst (v := 0) hx hb dX8_sumOf_9 (by decide) ?_
  refine lv_istore_n (lv' := [(3, .int 0), (2, .int 0), (0, .ref (ad o)), (1, .int a1)]) hx hb dX8_sumOf_10 rfl hl (by decide) rfl (fun ls hl => ?_)
  exact wX8_sumOf_11 fu C hem σ2 o a1 0 0 hf hB hS (lv_sub hl [2, 3, 1, 0] rfl)
end SX8_sumOf
set_option maxRecDepth 100000 in
theorem ctX8_sumOf (l : Launch) (fu : Nat) (σ : hs_T) (o : Nat) (a1 : Int32) : hs_C0 hs_tvi l yX8_sumOf wsX8_sumOf rmX8_sumOf (fun ad => [.ref (ad o), .int a1]) σ (fX8_sumOf fu σ o a1) := by
  intro X ad sz r τ hf
  refine hs_enter (cc := cX8_sumOf) (maxL := 4) (ret := (some .int)) (by decide) rfl (Nat.le_of_ble_eq_true rfl) ?_
  intro p e s m below meth c ls C hl hem hB hS hsz
  exact wX8_sumOf_e fu C hem σ o a1 hf hB hS hl
/-! ServiceGameModel.helps(IIIZ)V -/
abbrev rmX8_helps : Room := { frames := 0, cells := 0, slots := 0, locals := 0 }
theorem inX8_helps_X8 : ∀ w ∈ wsX80, w ∈ wsX8_helps := fun _ h => List.mem_cons_of_mem _ (List.mem_append_right _ h)
theorem lkX8_helps_0 : Cond.fieldLink RX8 104 "ServiceGameModel" "teams" "I" ∈ wsX8_helps := by decide +kernel
theorem lkX8_helps_1 : Cond.fieldLink RX8 89 "ServiceGameModel" "handedIn" "[I" ∈ wsX8_helps := by decide +kernel
def fX8_helps_83 (fu : Nat) (k3 : hs_T → Nat → Int32 → Int32 → Int32 → Int32 → Int32 → Option (Unit × hs_T)) (σ : hs_T) (x0 : Nat) (x1 : Int32) (x2 : Int32) (x3 : Int32) (x4 : Int32) (x5 : Int32) (x6 : Int32) : Option (Unit × hs_T) :=
 if x4 = 0 then
 ((hs_gN σ 10 x0 37).bind fun n10 =>
 (hs_ld σ 11 n10 x6).bind fun v11 =>
 if v11 = 900 then
 ((hs_gN σ 10 x0 37).bind fun n15 =>
 (hs_st σ 11 n15 x6 0).bind fun σ16 =>
 k3 σ16 x0 x1 x2 x3 x4 (x5 + 1))
 else
 (k3 σ x0 x1 x2 x3 x4 (x5 + 1)))
 else
 (k3 σ x0 x1 x2 x3 x4 (x5 + 1))
def fX8_helps_3b (fu : Nat)  (k3 : hs_T → Nat → Int32 → Int32 → Int32 → Int32 → Int32 → Option (Unit × hs_T)) (σ : hs_T) (x0 : Nat) (x1 : Int32) (x2 : Int32) (x3 : Int32) (x4 : Int32) (x5 : Int32) : Option (Unit × hs_T) :=
 (hs_gI σ 10 x0 0).bind fun v2 =>
 if v2 ≤ x5 then
 (some ((), σ))
 else
 (if ((x1 >>> (x5 &&& 31)) &&& 1) = 0 then
 (k3 σ x0 x1 x2 x3 x4 (x5 + 1))
 else
 (if ((x1 >>> ((x3 / 3) &&& 31)) &&& 1) = 0 then
 (k3 σ x0 x1 x2 x3 x4 (x5 + 1))
 else
 (if x5 = (x3 / 3) then
 (k3 σ x0 x1 x2 x3 x4 (x5 + 1))
 else
 (if x4 = 0 then
 (fX8_helps_83 fu k3 σ x0 x1 x2 x3 x4 x5 (((75 * x2) + (5 * x3)) + x5))
 else
 ((hs_gN σ 10 x0 37).bind fun n19 =>
 (hs_ld σ 11 n19 (((75 * x2) + (5 * x3)) + x5)).bind fun v20 =>
 if v20 = 0 then
 ((hs_gN σ 10 x0 37).bind fun n24 =>
 (hs_st σ 11 n24 (((75 * x2) + (5 * x3)) + x5) 900).bind fun σ25 =>
 k3 σ25 x0 x1 x2 x3 x4 (x5 + 1))
 else
 (fX8_helps_83 fu k3 σ x0 x1 x2 x3 x4 x5 (((75 * x2) + (5 * x3)) + x5)))))))
def fX8_helps_3 (fu : Nat)  (σ : hs_T) (x0 : Nat) (x1 : Int32) (x2 : Int32) (x3 : Int32) (x4 : Int32) (x5 : Int32) : Option (Unit × hs_T) :=
   hs_lp (fun (k : hs_T × Nat × Int32 × Int32 × Int32 × Int32 × Int32 → Option (Unit × hs_T)) (a : hs_T × Nat × Int32 × Int32 × Int32 × Int32 × Int32) => fX8_helps_3b fu  (fun σ x0 x1 x2 x3 x4 x5 => k (σ, x0, x1, x2, x3, x4, x5)) a.1 a.2.1 a.2.2.1 a.2.2.2.1 a.2.2.2.2.1 a.2.2.2.2.2.1 a.2.2.2.2.2.2) fu (σ, x0, x1, x2, x3, x4, x5)
def fX8_helps (fu : Nat) (σ : hs_T) (o : Nat) (a1 : Int32) (a2 : Int32) (a3 : Int32) (a4 : Int32) : Option (Unit × hs_T) :=
 fX8_helps_3 fu σ o a1 a2 a3 a4 0
section SX8_helps
variable {p : Program} {l : Launch} {e : Env} {s : State} {m : MethodId} {args : Array Value} {below : List Frame} {meth : Method} {c : Code} {X : hs_X} {ad : Nat → Nat} {A : Nat → Prop} {r : Unit} {τ : hs_T}
set_option maxRecDepth 100000 in
set_option maxHeartbeats 4000000 in
theorem wX8_helps_83 (fu : Nat) (C : hs_Cx p s m args meth c X A yX8_helps cX8_helps 7 none wsX8_helps) (hem : ad hs_em = X.2.2.1.2.2.2) (k3 : hs_T → Nat → Int32 → Int32 → Int32 → Int32 → Int32 → Option (Unit × hs_T)) (hk3 : ∀ (σ : hs_T) (x0 : Nat) (x1 : Int32) (x2 : Int32) (x3 : Int32) (x4 : Int32) (x5 : Int32) (H : Heap) (locs : List Loc) (ls : Array Slot), k3 σ x0 x1 x2 x3 x4 x5 = some (r, τ) → hs_H X.1 X.2.1 ad A σ H → va_S A s.heap H locs → lv_has ls 7 [(0, .ref (ad x0)), (1, .int x1), (2, .int x2), (3, .int x3), (4, .int x4), (5, .int x5)] → W p l e rmX8_helps s m args below meth c H locs 0 0 (MQ below (hs_Q0 hs_tvv X ad A r τ) args s 0 0 A) (F0 m 3 ls [])) {H : Heap} {locs : List Loc} {ls : Array Slot} (σ : hs_T) (x0 : Nat) (x1 : Int32) (x2 : Int32) (x3 : Int32) (x4 : Int32) (x5 : Int32) (x6 : Int32) (hf : fX8_helps_83 fu k3 σ x0 x1 x2 x3 x4 x5 x6 = some (r, τ)) (hB : hs_H X.1 X.2.1 ad A σ H) (hS : va_S A s.heap H locs) (hl : lv_has ls 7 [(0, .ref (ad x0)), (1, .int x1), (2, .int x2), (3, .int x3), (4, .int x4), (5, .int x5), (6, .int x6)]) : W p l e rmX8_helps s m args below meth c H locs 0 0 (MQ below (hs_Q0 hs_tvv X ad A r τ) args s 0 0 A) (F0 m 83 ls []) := by
  obtain ⟨hx, hb, hml, hr, hts, hown, hlk, hnm, hV, hA0, hA⟩ := id C
  have hown : s.vm.findClass RX8 = some m.cls := hown
  have hK := hV.1
  have hNw := hV.2.1
  unfold fX8_helps_83 at hf
  refine lv_iload hx hb dX8_helps_83 (lv_at hl 4 rfl) ?_
  refine lv_if_ne (tgt := 109) hx hb dX8_helps_85 (by decide) (fun h8 => ?_) (fun h8 => ?_)
  · have hf := hs_ff h8 hf
    refine lv_iinc (v := (x5 + 1)) (lv' := [(5, .int (x5 + 1)), (0, .ref (ad x0)), (1, .int x1), (2, .int x2), (3, .int x3), (4, .int x4), (6, .int x6)]) hx hb dX8_helps_109 hl (k := 5) rfl rfl (by decide) rfl (fun ls hl => ?_)
    refine lv_goto (tgt := 3) hx hb dX8_helps_112 (by decide) ?_
    exact hk3 σ x0 x1 x2 x3 x4 (x5 + 1) _ _ _ hf hB hS (lv_sub hl [1, 2, 3, 4, 5, 0] rfl)
  · have hf := hs_tt h8 hf
    refine lv_aload_n hx hb dX8_helps_88 rfl (lv_at hl 0 rfl) ?_
    obtain ⟨n10, h9, hf⟩ := hs_bi hf
    refine x_getN hx hb hts inX8_helps_X8 hown hK hB (by decide) rfl (k := 37) (by decide) rfl h9 (hts _ lkX8_helps_1) (fun _ h9 => h9) dX8_helps_89 ?_
    refine lv_iload hx hb dX8_helps_92 (lv_at hl 6 rfl) ?_
    obtain ⟨v11, h12, hf⟩ := hs_bi hf
    refine x_iald hx hb hK hB h12 dX8_helps_94 ?_
    refine lv_sipush (v := 900) hx hb dX8_helps_95 (by decide) ?_
    refine lv_icmp_ne (tgt := 109) hx hb dX8_helps_98 (by decide) (fun h13 => ?_) (fun h13 => ?_)
    · have hf := hs_ff h13 hf
      refine lv_iinc (v := (x5 + 1)) (lv' := [(5, .int (x5 + 1)), (0, .ref (ad x0)), (1, .int x1), (2, .int x2), (3, .int x3), (4, .int x4), (6, .int x6)]) hx hb dX8_helps_109 hl (k := 5) rfl rfl (by decide) rfl (fun ls hl => ?_)
      refine lv_goto (tgt := 3) hx hb dX8_helps_112 (by decide) ?_
      exact hk3 σ x0 x1 x2 x3 x4 (x5 + 1) _ _ _ hf hB hS (lv_sub hl [1, 2, 3, 4, 5, 0] rfl)
    · have hf := hs_tt h13 hf
      refine lv_aload_n hx hb dX8_helps_101 rfl (lv_at hl 0 rfl) ?_
      obtain ⟨n15, h14, hf⟩ := hs_bi hf
      refine x_getN hx hb hts inX8_helps_X8 hown hK hB (by decide) rfl (k := 37) (by decide) rfl h14 (hts _ lkX8_helps_1) (fun _ h9 => h9) dX8_helps_102 ?_
      refine lv_iload hx hb dX8_helps_105 (lv_at hl 6 rfl) ?_
      refine lv_iconst (v := 0) hx hb dX8_helps_107 (by decide) ?_
      obtain ⟨σ16, h17, hf⟩ := hs_bi hf
      refine x_iast hx hb hK hB hS h17 dX8_helps_108 (fun H locs hB hS => ?_)
      refine lv_iinc (v := (x5 + 1)) (lv' := [(5, .int (x5 + 1)), (0, .ref (ad x0)), (1, .int x1), (2, .int x2), (3, .int x3), (4, .int x4), (6, .int x6)]) hx hb dX8_helps_109 hl (k := 5) rfl rfl (by decide) rfl (fun ls hl => ?_)
      refine lv_goto (tgt := 3) hx hb dX8_helps_112 (by decide) ?_
      exact hk3 σ16 x0 x1 x2 x3 x4 (x5 + 1) _ _ _ hf hB hS (lv_sub hl [1, 2, 3, 4, 5, 0] rfl)
set_option maxRecDepth 100000 in
set_option maxHeartbeats 4000000 in
theorem wX8_helps_3b (fu : Nat) (C : hs_Cx p s m args meth c X A yX8_helps cX8_helps 7 none wsX8_helps) (hem : ad hs_em = X.2.2.1.2.2.2)  (k3 : hs_T → Nat → Int32 → Int32 → Int32 → Int32 → Int32 → Option (Unit × hs_T)) (hk3 : ∀ (σ : hs_T) (x0 : Nat) (x1 : Int32) (x2 : Int32) (x3 : Int32) (x4 : Int32) (x5 : Int32) (H : Heap) (locs : List Loc) (ls : Array Slot), k3 σ x0 x1 x2 x3 x4 x5 = some (r, τ) → hs_H X.1 X.2.1 ad A σ H → va_S A s.heap H locs → lv_has ls 7 [(0, .ref (ad x0)), (1, .int x1), (2, .int x2), (3, .int x3), (4, .int x4), (5, .int x5)] → W p l e rmX8_helps s m args below meth c H locs 0 0 (MQ below (hs_Q0 hs_tvv X ad A r τ) args s 0 0 A) (F0 m 3 ls [])) {H : Heap} {locs : List Loc} {ls : Array Slot} (σ : hs_T) (x0 : Nat) (x1 : Int32) (x2 : Int32) (x3 : Int32) (x4 : Int32) (x5 : Int32) (hf : fX8_helps_3b fu  k3 σ x0 x1 x2 x3 x4 x5 = some (r, τ)) (hB : hs_H X.1 X.2.1 ad A σ H) (hS : va_S A s.heap H locs) (hl : lv_has ls 7 [(0, .ref (ad x0)), (1, .int x1), (2, .int x2), (3, .int x3), (4, .int x4), (5, .int x5)]) : W p l e rmX8_helps s m args below meth c H locs 0 0 (MQ below (hs_Q0 hs_tvv X ad A r τ) args s 0 0 A) (F0 m 3 ls []) := by
  obtain ⟨hx, hb, hml, hr, hts, hown, hlk, hnm, hV, hA0, hA⟩ := id C
  have hown : s.vm.findClass RX8 = some m.cls := hown
  have hK := hV.1
  have hNw := hV.2.1
  unfold fX8_helps_3b at hf
  refine lv_iload hx hb dX8_helps_3 (lv_at hl 5 rfl) ?_
  refine lv_aload_n hx hb dX8_helps_5 rfl (lv_at hl 0 rfl) ?_
  obtain ⟨v2, h1, hf⟩ := hs_bi hf
  refine x_getI hx hb hts inX8_helps_X8 hown hK hB (by decide) rfl (k := 0) (by decide) rfl h1 (hts _ lkX8_helps_0) (fun _ h9 => h9) dX8_helps_6 ?_
  refine lv_icmp_ge (tgt := 115) hx hb dX8_helps_9 (by decide) (fun h3 => ?_) (fun h3 => ?_)
  · have hf := hs_tt h3 hf
    obtain ⟨rfl, rfl⟩ := hs_ri hf
    exact hs_vret hx hb hr hlk hB hS dX8_helps_115
  · have hf := hs_ff h3 hf
    refine lv_bipush (v := 75) hx hb dX8_helps_12 (by decide) ?_
    refine lv_iload_n hx hb dX8_helps_14 rfl (lv_at hl 2 rfl) ?_
    refine lv_imul hx hb dX8_helps_15 ?_
    refine lv_iconst (v := 5) hx hb dX8_helps_16 (by decide) ?_
    refine lv_iload_n hx hb dX8_helps_17 rfl (lv_at hl 3 rfl) ?_
    refine lv_imul hx hb dX8_helps_18 ?_
    refine lv_iadd hx hb dX8_helps_19 ?_
    refine lv_iload hx hb dX8_helps_20 (lv_at hl 5 rfl) ?_
    refine lv_iadd hx hb dX8_helps_22 ?_
    refine lv_istore (lv' := [(6, .int (((75 * x2) + (5 * x3)) + x5)), (0, .ref (ad x0)), (1, .int x1), (2, .int x2), (3, .int x3), (4, .int x4), (5, .int x5)]) hx hb dX8_helps_23 hl (by decide) rfl (fun ls hl => ?_)
    refine lv_iload_n hx hb dX8_helps_25 rfl (lv_at hl 2 rfl) ?_
    refine lv_iload hx hb dX8_helps_26 (lv_at hl 6 rfl) ?_
    refine lv_ishr hx hb dX8_helps_28 ?_
    refine lv_iconst (v := 1) hx hb dX8_helps_29 (by decide) ?_
    refine lv_iand hx hb dX8_helps_30 ?_
    refine lv_if_eq (tgt := 109) hx hb dX8_helps_31 (by decide) (fun h4 => ?_) (fun h4 => ?_)
    · have hf := hs_tt h4 hf
      refine lv_iinc (v := (x5 + 1)) (lv' := [(5, .int (x5 + 1)), (6, .int (((75 * x2) + (5 * x3)) + x5)), (0, .ref (ad x0)), (1, .int x1), (2, .int x2), (3, .int x3), (4, .int x4)]) hx hb dX8_helps_109 hl (k := 6) rfl rfl (by decide) rfl (fun ls hl => ?_)
      refine lv_goto (tgt := 3) hx hb dX8_helps_112 (by decide) ?_
      exact hk3 σ x0 x1 x2 x3 x4 (x5 + 1) _ _ _ hf hB hS (lv_sub hl [2, 3, 4, 5, 6, 0] rfl)
    · have hf := hs_ff h4 hf
      refine lv_iload_n hx hb dX8_helps_34 rfl (lv_at hl 2 rfl) ?_
      refine lv_iload_n hx hb dX8_helps_35 rfl (lv_at hl 4 rfl) ?_
      refine lv_iconst (v := 3) hx hb dX8_helps_36 (by decide) ?_
      refine lv_idiv hx hb dX8_helps_37 (by decide) ?_
      refine lv_ishr hx hb dX8_helps_38 ?_
      refine lv_iconst (v := 1) hx hb dX8_helps_39 (by decide) ?_
      refine lv_iand hx hb dX8_helps_40 ?_
      refine lv_if_eq (tgt := 109) hx hb dX8_helps_41 (by decide) (fun h5 => ?_) (fun h5 => ?_)
      · have hf := hs_tt h5 hf
        refine lv_iinc (v := (x5 + 1)) (lv' := [(5, .int (x5 + 1)), (6, .int (((75 * x2) + (5 * x3)) + x5)), (0, .ref (ad x0)), (1, .int x1), (2, .int x2), (3, .int x3), (4, .int x4)]) hx hb dX8_helps_109 hl (k := 6) rfl rfl (by decide) rfl (fun ls hl => ?_)
        refine lv_goto (tgt := 3) hx hb dX8_helps_112 (by decide) ?_
        exact hk3 σ x0 x1 x2 x3 x4 (x5 + 1) _ _ _ hf hB hS (lv_sub hl [2, 3, 4, 5, 6, 0] rfl)
      · have hf := hs_ff h5 hf
        refine lv_iload hx hb dX8_helps_44 (lv_at hl 6 rfl) ?_
        refine lv_iload_n hx hb dX8_helps_46 rfl (lv_at hl 4 rfl) ?_
        refine lv_iconst (v := 3) hx hb dX8_helps_47 (by decide) ?_
        refine lv_idiv hx hb dX8_helps_48 (by decide) ?_
        refine lv_icmp_ne (tgt := 55) hx hb dX8_helps_49 (by decide) (fun h6 => ?_) (fun h6 => ?_)
        · have hf := hs_ff h6 hf
          refine lv_iload hx hb dX8_helps_55 (lv_at hl 5 rfl) ?_
          refine lv_if_eq (tgt := 83) hx hb dX8_helps_57 (by decide) (fun h7 => ?_) (fun h7 => ?_)
          · have hf := hs_tt h7 hf
            exact wX8_helps_83 fu C hem k3 hk3 σ x0 x1 x2 x3 x4 x5 (((75 * x2) + (5 * x3)) + x5) hf hB hS (lv_sub hl [1, 2, 3, 4, 5, 6, 0] rfl)
          · have hf := hs_ff h7 hf
            refine lv_aload_n hx hb dX8_helps_60 rfl (lv_at hl 1 rfl) ?_
            obtain ⟨n19, h18, hf⟩ := hs_bi hf
            refine x_getN hx hb hts inX8_helps_X8 hown hK hB (by decide) rfl (k := 37) (by decide) rfl h18 (hts _ lkX8_helps_1) (fun _ h9 => h9) dX8_helps_61 ?_
            refine lv_iload hx hb dX8_helps_64 (lv_at hl 0 rfl) ?_
            obtain ⟨v20, h21, hf⟩ := hs_bi hf
            refine x_iald hx hb hK hB h21 dX8_helps_66 ?_
            refine lv_if_ne (tgt := 83) hx hb dX8_helps_67 (by decide) (fun h22 => ?_) (fun h22 => ?_)
            · have hf := hs_ff h22 hf
              exact wX8_helps_83 fu C hem k3 hk3 σ x0 x1 x2 x3 x4 x5 (((75 * x2) + (5 * x3)) + x5) hf hB hS (lv_sub hl [1, 2, 3, 4, 5, 6, 0] rfl)
            · have hf := hs_tt h22 hf
              refine lv_aload_n hx hb dX8_helps_70 rfl (lv_at hl 1 rfl) ?_
              obtain ⟨n24, h23, hf⟩ := hs_bi hf
              refine x_getN hx hb hts inX8_helps_X8 hown hK hB (by decide) rfl (k := 37) (by decide) rfl h23 (hts _ lkX8_helps_1) (fun _ h9 => h9) dX8_helps_71 ?_
              refine lv_iload hx hb dX8_helps_74 (lv_at hl 0 rfl) ?_
              refine lv_sipush (v := 900) hx hb dX8_helps_76 (by decide) ?_
              obtain ⟨σ25, h26, hf⟩ := hs_bi hf
              refine x_iast hx hb hK hB hS h26 dX8_helps_79 (fun H locs hB hS => ?_)
              refine lv_goto (tgt := 109) hx hb dX8_helps_80 (by decide) ?_
              refine lv_iinc (v := (x5 + 1)) (lv' := [(5, .int (x5 + 1)), (6, .int (((75 * x2) + (5 * x3)) + x5)), (0, .ref (ad x0)), (1, .int x1), (2, .int x2), (3, .int x3), (4, .int x4)]) hx hb dX8_helps_109 hl (k := 6) rfl rfl (by decide) rfl (fun ls hl => ?_)
              refine lv_goto (tgt := 3) hx hb dX8_helps_112 (by decide) ?_
              exact hk3 σ25 x0 x1 x2 x3 x4 (x5 + 1) _ _ _ hf hB hS (lv_sub hl [2, 3, 4, 5, 6, 0] rfl)
        · have hf := hs_tt h6 hf
          refine lv_goto (tgt := 109) hx hb dX8_helps_52 (by decide) ?_
          refine lv_iinc (v := (x5 + 1)) (lv' := [(5, .int (x5 + 1)), (6, .int (((75 * x2) + (5 * x3)) + x5)), (0, .ref (ad x0)), (1, .int x1), (2, .int x2), (3, .int x3), (4, .int x4)]) hx hb dX8_helps_109 hl (k := 6) rfl rfl (by decide) rfl (fun ls hl => ?_)
          refine lv_goto (tgt := 3) hx hb dX8_helps_112 (by decide) ?_
          exact hk3 σ x0 x1 x2 x3 x4 (x5 + 1) _ _ _ hf hB hS (lv_sub hl [2, 3, 4, 5, 6, 0] rfl)
set_option maxRecDepth 100000 in
set_option maxHeartbeats 4000000 in
theorem wX8_helps_3 (fu : Nat) (C : hs_Cx p s m args meth c X A yX8_helps cX8_helps 7 none wsX8_helps) (hem : ad hs_em = X.2.2.1.2.2.2)  {H : Heap} {locs : List Loc} {ls : Array Slot} (σ : hs_T) (x0 : Nat) (x1 : Int32) (x2 : Int32) (x3 : Int32) (x4 : Int32) (x5 : Int32) (hf : fX8_helps_3 fu  σ x0 x1 x2 x3 x4 x5 = some (r, τ)) (hB : hs_H X.1 X.2.1 ad A σ H) (hS : va_S A s.heap H locs) (hl : lv_has ls 7 [(0, .ref (ad x0)), (1, .int x1), (2, .int x2), (3, .int x3), (4, .int x4), (5, .int x5)]) : W p l e rmX8_helps s m args below meth c H locs 0 0 (MQ below (hs_Q0 hs_tvv X ad A r τ) args s 0 0 A) (F0 m 3 ls []) := by
  unfold fX8_helps_3 at hf
  exact hs_lp_i (P := fun a => ∀ (H : Heap) (locs : List Loc) (ls : Array Slot), hs_H X.1 X.2.1 ad A a.1 H → va_S A s.heap H locs → lv_has ls 7 [(0, .ref (ad a.2.1)), (1, .int a.2.2.1), (2, .int a.2.2.2.1), (3, .int a.2.2.2.2.1), (4, .int a.2.2.2.2.2.1), (5, .int a.2.2.2.2.2.2)] → W p l e rmX8_helps s m args below meth c H locs 0 0 (MQ below (hs_Q0 hs_tvv X ad A r τ) args s 0 0 A) (F0 m 3 ls [])) (fun k a hk hf H locs ls hB hS hl => wX8_helps_3b fu C hem  _ (fun σ x0 x1 x2 x3 x4 x5 H locs ls hf hB hS hl => hk (σ, x0, x1, x2, x3, x4, x5) hf H locs ls hB hS hl) a.1 a.2.1 a.2.2.1 a.2.2.2.1 a.2.2.2.2.1 a.2.2.2.2.2.1 a.2.2.2.2.2.2 hf hB hS hl) fu (σ, x0, x1, x2, x3, x4, x5) hf H locs ls hB hS hl
set_option maxRecDepth 100000 in
set_option maxHeartbeats 4000000 in
theorem wX8_helps_e (fu : Nat) (C : hs_Cx p s m args meth c X A yX8_helps cX8_helps 7 none wsX8_helps) (hem : ad hs_em = X.2.2.1.2.2.2) {H : Heap} {locs : List Loc} {ls : Array Slot} (σ : hs_T) (o : Nat) (a1 : Int32) (a2 : Int32) (a3 : Int32) (a4 : Int32) (hf : fX8_helps fu σ o a1 a2 a3 a4 = some (r, τ)) (hB : hs_H X.1 X.2.1 ad A σ H) (hS : va_S A s.heap H locs) (hl : lv_has ls 7 [(0, .ref (ad o)), (1, .int a1), (2, .int a2), (3, .int a3), (4, .int a4)]) : W p l e rmX8_helps s m args below meth c H locs 0 0 (MQ below (hs_Q0 hs_tvv X ad A r τ) args s 0 0 A) (F0 m 0 ls []) := by
  obtain ⟨hx, hb, hml, hr, hts, hown, hlk, hnm, hV, hA0, hA⟩ := id C
  have hown : s.vm.findClass RX8 = some m.cls := hown
  have hK := hV.1
  have hNw := hV.2.1
  unfold fX8_helps at hf
  refine lv_iconst (v := 0) hx hb dX8_helps_0 (by decide) ?_
  refine lv_istore (lv' := [(5, .int 0), (0, .ref (ad o)), (1, .int a1), (2, .int a2), (3, .int a3), (4, .int a4)]) hx hb dX8_helps_1 hl (by decide) rfl (fun ls hl => ?_)
  exact wX8_helps_3 fu C hem σ o a1 a2 a3 a4 0 hf hB hS (lv_sub hl [1, 2, 3, 4, 5, 0] rfl)
end SX8_helps
set_option maxRecDepth 100000 in
theorem ctX8_helps (l : Launch) (fu : Nat) (σ : hs_T) (o : Nat) (a1 : Int32) (a2 : Int32) (a3 : Int32) (a4 : Int32) : hs_C0 hs_tvv l yX8_helps wsX8_helps rmX8_helps (fun ad => [.ref (ad o), .int a1, .int a2, .int a3, .int a4]) σ (fX8_helps fu σ o a1 a2 a3 a4) := by
  intro X ad sz r τ hf
  refine hs_enter (cc := cX8_helps) (maxL := 7) (ret := none) (by decide) rfl (Nat.le_of_ble_eq_true rfl) ?_
  intro p e s m below meth c ls C hl hem hB hS hsz
  exact wX8_helps_e fu C hem σ o a1 a2 a3 a4 hf hB hS hl
/-! ServiceGameModel.gain(I)I -/
abbrev rmX8_gain : Room := { frames := 5, cells := 0, slots := 0, locals := 119 }
theorem inX8_gain_X8 : ∀ w ∈ wsX80, w ∈ wsX8_gain := fun _ h => List.mem_cons_of_mem _ (List.mem_append_right _ h)
theorem lkX8_gain_0 : Cond.constant RX8 239 (-1000000) ∈ wsX8_gain := by decide +kernel
theorem lkX8_gain_1 : Cond.fieldLink RX8 104 "ServiceGameModel" "teams" "I" ∈ wsX8_gain := by decide +kernel
theorem lkX8_gain_2 : Cond.fieldLink RX8 118 "ServiceGameModel" "rounds" "I" ∈ wsX8_gain := by decide +kernel
theorem lkX8_gain_3 : Cond.constant RX8 246 (-1000001) ∈ wsX8_gain := by decide +kernel
def fX8_gain_43 (fu : Nat)  (σ : hs_T)  : Option (Int32 × hs_T) :=
 some ((-1000000), σ)
def fX8_gain_110b (fu : Nat)  (k110 : hs_T → Nat → Int32 → Int32 → Int32 → Int32 → Int32 → Option (Int32 × hs_T)) (σ : hs_T) (x0 : Nat) (x1 : Int32) (x3 : Int32) (x4 : Int32) (x5 : Int32) (x6 : Int32) : Option (Int32 × hs_T) :=
 (hs_gI σ 10 x0 0).bind fun v24 =>
 if (3 * v24) ≤ x6 then
 (some ((x5 - x3), σ))
 else
 ((hs_ck σ 10 x0).bind fun _ =>
 hs_b2 (fX8_helps fu σ x0 x1 x4 x6 0) fun _ σ27 =>
 k110 σ27 x0 x1 x3 x4 x5 (x6 + 1))
def fX8_gain_110 (fu : Nat)  (σ : hs_T) (x0 : Nat) (x1 : Int32) (x3 : Int32) (x4 : Int32) (x5 : Int32) (x6 : Int32) : Option (Int32 × hs_T) :=
   hs_lp (fun (k : hs_T × Nat × Int32 × Int32 × Int32 × Int32 × Int32 → Option (Int32 × hs_T)) (a : hs_T × Nat × Int32 × Int32 × Int32 × Int32 × Int32) => fX8_gain_110b fu  (fun σ x0 x1 x3 x4 x5 x6 => k (σ, x0, x1, x3, x4, x5, x6)) a.1 a.2.1 a.2.2.1 a.2.2.2.1 a.2.2.2.2.1 a.2.2.2.2.2.1 a.2.2.2.2.2.2) fu (σ, x0, x1, x3, x4, x5, x6)
def fX8_gain_73b (fu : Nat)  (k73 : hs_T → Nat → Int32 → Int32 → Int32 → Int32 → Option (Int32 × hs_T)) (σ : hs_T) (x0 : Nat) (x1 : Int32) (x3 : Int32) (x4 : Int32) (x5 : Int32) : Option (Int32 × hs_T) :=
 (hs_gI σ 10 x0 0).bind fun v17 =>
 if (3 * v17) ≤ x5 then
 ((hs_ck σ 10 x0).bind fun _ =>
 hs_b2 (fX8_sumOf fu σ x0 x1) fun v22 σ20 =>
 fX8_gain_110 fu σ20 x0 x1 x3 x4 v22 0)
 else
 ((hs_ck σ 10 x0).bind fun _ =>
 hs_b2 (fX8_helps fu σ x0 x1 x4 x5 1) fun _ σ30 =>
 k73 σ30 x0 x1 x3 x4 (x5 + 1))
def fX8_gain_73 (fu : Nat)  (σ : hs_T) (x0 : Nat) (x1 : Int32) (x3 : Int32) (x4 : Int32) (x5 : Int32) : Option (Int32 × hs_T) :=
   hs_lp (fun (k : hs_T × Nat × Int32 × Int32 × Int32 × Int32 → Option (Int32 × hs_T)) (a : hs_T × Nat × Int32 × Int32 × Int32 × Int32) => fX8_gain_73b fu  (fun σ x0 x1 x3 x4 x5 => k (σ, x0, x1, x3, x4, x5)) a.1 a.2.1 a.2.2.1 a.2.2.2.1 a.2.2.2.2.1 a.2.2.2.2.2) fu (σ, x0, x1, x3, x4, x5)
def fX8_gain_4b (fu : Nat)  (k4 : hs_T → Nat → Int32 → Int32 → Int32 → Option (Int32 × hs_T)) (σ : hs_T) (x0 : Nat) (x1 : Int32) (x2 : Int32) (x3 : Int32) : Option (Int32 × hs_T) :=
 if 31 ≤ x3 then
 (if x1 < 0 then
 (fX8_gain_43 fu σ )
 else
 ((hs_gI σ 10 x0 0).bind fun v4 =>
 if (1 <<< (v4 &&& 31)) ≤ x1 then
 (fX8_gain_43 fu σ )
 else
 (if 2 ≤ x2 then
 ((hs_gI σ 10 x0 1).bind fun v8 =>
 if v8 = 0 then
 (some ((-1000001), σ))
 else
 ((hs_ck σ 10 x0).bind fun _ =>
 hs_b2 (fX8_sumOf fu σ x0 x1) fun v13 σ11 =>
 (hs_gI σ11 10 x0 1).bind fun v15 =>
 fX8_gain_73 fu σ11 x0 x1 v13 (v15 - 1) 0))
 else
 (fX8_gain_43 fu σ ))))
 else
 (k4 σ x0 x1 (x2 + ((x1 >>> (x3 &&& 31)) &&& 1)) (x3 + 1))
def fX8_gain_4 (fu : Nat)  (σ : hs_T) (x0 : Nat) (x1 : Int32) (x2 : Int32) (x3 : Int32) : Option (Int32 × hs_T) :=
   hs_lp (fun (k : hs_T × Nat × Int32 × Int32 × Int32 → Option (Int32 × hs_T)) (a : hs_T × Nat × Int32 × Int32 × Int32) => fX8_gain_4b fu  (fun σ x0 x1 x2 x3 => k (σ, x0, x1, x2, x3)) a.1 a.2.1 a.2.2.1 a.2.2.2.1 a.2.2.2.2) fu (σ, x0, x1, x2, x3)
def fX8_gain (fu : Nat) (σ : hs_T) (o : Nat) (a1 : Int32) : Option (Int32 × hs_T) :=
 fX8_gain_4 fu σ o a1 0 0
section SX8_gain
variable {p : Program} {l : Launch} {e : Env} {s : State} {m : MethodId} {args : Array Value} {below : List Frame} {meth : Method} {c : Code} {X : hs_X} {ad : Nat → Nat} {A : Nat → Prop} {r : Int32} {τ : hs_T}
set_option maxRecDepth 100000 in
set_option maxHeartbeats 4000000 in
theorem wX8_gain_43 (fu : Nat) (C : hs_Cx p s m args meth c X A yX8_gain cX8_gain 7 (some .int) wsX8_gain) (hem : ad hs_em = X.2.2.1.2.2.2)  {H : Heap} {locs : List Loc} {ls : Array Slot} (σ : hs_T)  (hf : fX8_gain_43 fu  σ  = some (r, τ)) (hB : hs_H X.1 X.2.1 ad A σ H) (hS : va_S A s.heap H locs) (hl : lv_has ls 7 []) : W p l e rmX8_gain s m args below meth c H locs 0 0 (MQ below (hs_Q0 hs_tvi X ad A r τ) args s 0 0 A) (F0 m 43 ls []) := by
  obtain ⟨hx, hb, hml, hr, hts, hown, hlk, hnm, hV, hA0, hA⟩ := id C
  have hown : s.vm.findClass RX8 = some m.cls := hown
  have hK := hV.1
  have hNw := hV.2.1
  unfold fX8_gain_43 at hf
  refine lv_ldc hx hb hown (hts _ lkX8_gain_0) dX8_gain_43 ?_
  obtain ⟨rfl, rfl⟩ := hs_ri hf
  exact hs_iret hx hb hr hlk hB hS dX8_gain_45
set_option maxRecDepth 100000 in
set_option maxHeartbeats 4000000 in
theorem wX8_gain_110b (fu : Nat) (C : hs_Cx p s m args meth c X A yX8_gain cX8_gain 7 (some .int) wsX8_gain) (hem : ad hs_em = X.2.2.1.2.2.2)  (k110 : hs_T → Nat → Int32 → Int32 → Int32 → Int32 → Int32 → Option (Int32 × hs_T)) (hk110 : ∀ (σ : hs_T) (x0 : Nat) (x1 : Int32) (x3 : Int32) (x4 : Int32) (x5 : Int32) (x6 : Int32) (H : Heap) (locs : List Loc) (ls : Array Slot), k110 σ x0 x1 x3 x4 x5 x6 = some (r, τ) → hs_H X.1 X.2.1 ad A σ H → va_S A s.heap H locs → lv_has ls 7 [(0, .ref (ad x0)), (1, .int x1), (3, .int x3), (4, .int x4), (5, .int x5), (6, .int x6)] → W p l e rmX8_gain s m args below meth c H locs 0 0 (MQ below (hs_Q0 hs_tvi X ad A r τ) args s 0 0 A) (F0 m 110 ls [])) {H : Heap} {locs : List Loc} {ls : Array Slot} (σ : hs_T) (x0 : Nat) (x1 : Int32) (x3 : Int32) (x4 : Int32) (x5 : Int32) (x6 : Int32) (hf : fX8_gain_110b fu  k110 σ x0 x1 x3 x4 x5 x6 = some (r, τ)) (hB : hs_H X.1 X.2.1 ad A σ H) (hS : va_S A s.heap H locs) (hl : lv_has ls 7 [(0, .ref (ad x0)), (1, .int x1), (3, .int x3), (4, .int x4), (5, .int x5), (6, .int x6)]) : W p l e rmX8_gain s m args below meth c H locs 0 0 (MQ below (hs_Q0 hs_tvi X ad A r τ) args s 0 0 A) (F0 m 110 ls []) := by
  obtain ⟨hx, hb, hml, hr, hts, hown, hlk, hnm, hV, hA0, hA⟩ := id C
  have hown : s.vm.findClass RX8 = some m.cls := hown
  have hK := hV.1
  have hNw := hV.2.1
  unfold fX8_gain_110b at hf
  refine lv_iload hx hb dX8_gain_110 (lv_at hl 5 rfl) ?_
  refine lv_iconst (v := 3) hx hb dX8_gain_112 (by decide) ?_
  refine lv_aload_n hx hb dX8_gain_113 rfl (lv_at hl 0 rfl) ?_
  obtain ⟨v24, h23, hf⟩ := hs_bi hf
  refine x_getI hx hb hts inX8_gain_X8 hown hK hB (by decide) rfl (k := 0) (by decide) rfl h23 (hts _ lkX8_gain_1) (fun _ h9 => h9) dX8_gain_114 ?_
  refine lv_imul hx hb dX8_gain_117 ?_
  refine lv_icmp_ge (tgt := 137) hx hb dX8_gain_118 (by decide) (fun h25 => ?_) (fun h25 => ?_)
  · have hf := hs_tt h25 hf
    refine lv_iload hx hb dX8_gain_137 (lv_at hl 4 rfl) ?_
    refine lv_iload_n hx hb dX8_gain_139 rfl (lv_at hl 2 rfl) ?_
    refine lv_isub hx hb dX8_gain_140 ?_
    obtain ⟨rfl, rfl⟩ := hs_ri hf
    exact hs_iret hx hb hr hlk hB hS dX8_gain_141
  · have hf := hs_ff h25 hf
    refine lv_aload_n hx hb dX8_gain_121 rfl (lv_at hl 0 rfl) ?_
    refine lv_iload_n hx hb dX8_gain_122 rfl (lv_at hl 1 rfl) ?_
    refine lv_iload hx hb dX8_gain_123 (lv_at hl 3 rfl) ?_
    refine lv_iload hx hb dX8_gain_125 (lv_at hl 5 rfl) ?_
    refine lv_iconst (v := 0) hx hb dX8_gain_127 (by decide) ?_
    obtain ⟨_, h28, hf⟩ := hs_bi hf
    obtain ⟨_, σ27, h26, hf⟩ := hs_b2i hf
    refine hs_call0 (va_runV (As := [.int x1, .int x4, .int x6, .int 0]) (rest := []) ⟨hx, hb, hml, hown, hts⟩ (ctX8_helps l fu σ x0 x1 x4 x6 0 X ad H.size _ _ h26) (cwV 4 hts gX8_gain_X8_helps rfl rfl rfl (by decide +kernel) ⟨Nat.le_of_ble_eq_true rfl, Nat.le_of_ble_eq_true rfl⟩) (hs_preV (hs_recv hK hB (hs_ck_i h28) (by decide) rfl) hV hB hS hA0 hA hem) rfl rfl hl.1 rfl (lv_room (Nat.le_of_ble_eq_true rfl)) dX8_gain_128 ⟨Nat.le_of_ble_eq_true rfl, Nat.le_of_ble_eq_true rfl⟩) hB hS hA rfl (fun H locs hB hS => ?_)
    refine lv_iinc (v := (x6 + 1)) (lv' := [(6, .int (x6 + 1)), (0, .ref (ad x0)), (1, .int x1), (3, .int x3), (4, .int x4), (5, .int x5)]) hx hb dX8_gain_131 hl (k := 5) rfl rfl (by decide) rfl (fun ls hl => ?_)
    refine lv_goto (tgt := 110) hx hb dX8_gain_134 (by decide) ?_
    exact hk110 σ27 x0 x1 x3 x4 x5 (x6 + 1) _ _ _ hf hB hS (lv_sub hl [1, 2, 3, 4, 5, 0] rfl)
set_option maxRecDepth 100000 in
set_option maxHeartbeats 4000000 in
theorem wX8_gain_110 (fu : Nat) (C : hs_Cx p s m args meth c X A yX8_gain cX8_gain 7 (some .int) wsX8_gain) (hem : ad hs_em = X.2.2.1.2.2.2)  {H : Heap} {locs : List Loc} {ls : Array Slot} (σ : hs_T) (x0 : Nat) (x1 : Int32) (x3 : Int32) (x4 : Int32) (x5 : Int32) (x6 : Int32) (hf : fX8_gain_110 fu  σ x0 x1 x3 x4 x5 x6 = some (r, τ)) (hB : hs_H X.1 X.2.1 ad A σ H) (hS : va_S A s.heap H locs) (hl : lv_has ls 7 [(0, .ref (ad x0)), (1, .int x1), (3, .int x3), (4, .int x4), (5, .int x5), (6, .int x6)]) : W p l e rmX8_gain s m args below meth c H locs 0 0 (MQ below (hs_Q0 hs_tvi X ad A r τ) args s 0 0 A) (F0 m 110 ls []) := by
  unfold fX8_gain_110 at hf
  exact hs_lp_i (P := fun a => ∀ (H : Heap) (locs : List Loc) (ls : Array Slot), hs_H X.1 X.2.1 ad A a.1 H → va_S A s.heap H locs → lv_has ls 7 [(0, .ref (ad a.2.1)), (1, .int a.2.2.1), (3, .int a.2.2.2.1), (4, .int a.2.2.2.2.1), (5, .int a.2.2.2.2.2.1), (6, .int a.2.2.2.2.2.2)] → W p l e rmX8_gain s m args below meth c H locs 0 0 (MQ below (hs_Q0 hs_tvi X ad A r τ) args s 0 0 A) (F0 m 110 ls [])) (fun k a hk hf H locs ls hB hS hl => wX8_gain_110b fu C hem  _ (fun σ x0 x1 x3 x4 x5 x6 H locs ls hf hB hS hl => hk (σ, x0, x1, x3, x4, x5, x6) hf H locs ls hB hS hl) a.1 a.2.1 a.2.2.1 a.2.2.2.1 a.2.2.2.2.1 a.2.2.2.2.2.1 a.2.2.2.2.2.2 hf hB hS hl) fu (σ, x0, x1, x3, x4, x5, x6) hf H locs ls hB hS hl
set_option maxRecDepth 100000 in
set_option maxHeartbeats 4000000 in
theorem wX8_gain_73b (fu : Nat) (C : hs_Cx p s m args meth c X A yX8_gain cX8_gain 7 (some .int) wsX8_gain) (hem : ad hs_em = X.2.2.1.2.2.2)  (k73 : hs_T → Nat → Int32 → Int32 → Int32 → Int32 → Option (Int32 × hs_T)) (hk73 : ∀ (σ : hs_T) (x0 : Nat) (x1 : Int32) (x3 : Int32) (x4 : Int32) (x5 : Int32) (H : Heap) (locs : List Loc) (ls : Array Slot), k73 σ x0 x1 x3 x4 x5 = some (r, τ) → hs_H X.1 X.2.1 ad A σ H → va_S A s.heap H locs → lv_has ls 7 [(0, .ref (ad x0)), (1, .int x1), (3, .int x3), (4, .int x4), (5, .int x5)] → W p l e rmX8_gain s m args below meth c H locs 0 0 (MQ below (hs_Q0 hs_tvi X ad A r τ) args s 0 0 A) (F0 m 73 ls [])) {H : Heap} {locs : List Loc} {ls : Array Slot} (σ : hs_T) (x0 : Nat) (x1 : Int32) (x3 : Int32) (x4 : Int32) (x5 : Int32) (hf : fX8_gain_73b fu  k73 σ x0 x1 x3 x4 x5 = some (r, τ)) (hB : hs_H X.1 X.2.1 ad A σ H) (hS : va_S A s.heap H locs) (hl : lv_has ls 7 [(0, .ref (ad x0)), (1, .int x1), (3, .int x3), (4, .int x4), (5, .int x5)]) : W p l e rmX8_gain s m args below meth c H locs 0 0 (MQ below (hs_Q0 hs_tvi X ad A r τ) args s 0 0 A) (F0 m 73 ls []) := by
  obtain ⟨hx, hb, hml, hr, hts, hown, hlk, hnm, hV, hA0, hA⟩ := id C
  have hown : s.vm.findClass RX8 = some m.cls := hown
  have hK := hV.1
  have hNw := hV.2.1
  unfold fX8_gain_73b at hf
  refine lv_iload hx hb dX8_gain_73 (lv_at hl 4 rfl) ?_
  refine lv_iconst (v := 3) hx hb dX8_gain_75 (by decide) ?_
  refine lv_aload_n hx hb dX8_gain_76 rfl (lv_at hl 0 rfl) ?_
  obtain ⟨v17, h16, hf⟩ := hs_bi hf
  refine x_getI hx hb hts inX8_gain_X8 hown hK hB (by decide) rfl (k := 0) (by decide) rfl h16 (hts _ lkX8_gain_1) (fun _ h9 => h9) dX8_gain_77 ?_
  refine lv_imul hx hb dX8_gain_80 ?_
  refine lv_icmp_ge (tgt := 100) hx hb dX8_gain_81 (by decide) (fun h18 => ?_) (fun h18 => ?_)
  · have hf := hs_tt h18 hf
    refine lv_aload_n hx hb dX8_gain_100 rfl (lv_at hl 0 rfl) ?_
    refine lv_iload_n hx hb dX8_gain_101 rfl (lv_at hl 1 rfl) ?_
    obtain ⟨_, h21, hf⟩ := hs_bi hf
    obtain ⟨v22, σ20, h19, hf⟩ := hs_b2i hf
    refine hs_call0 (va_runV (As := [.int x1]) (rest := []) ⟨hx, hb, hml, hown, hts⟩ (ctX8_sumOf l fu σ x0 x1 X ad H.size _ _ h19) (cwV 1 hts gX8_gain_X8_sumOf rfl rfl rfl (by decide +kernel) ⟨Nat.le_of_ble_eq_true rfl, Nat.le_of_ble_eq_true rfl⟩) (hs_preV (hs_recv hK hB (hs_ck_i h21) (by decide) rfl) hV hB hS hA0 hA hem) rfl rfl hl.1 rfl (lv_room (Nat.le_of_ble_eq_true rfl)) dX8_gain_102 ⟨Nat.le_of_ble_eq_true rfl, Nat.le_of_ble_eq_true rfl⟩) hB hS hA rfl (fun H locs hB hS => ?_)
    refine lv_istore (lv' := [(5, .int v22), (0, .ref (ad x0)), (1, .int x1), (3, .int x3), (4, .int x4)]) hx hb dX8_gain_105 hl (by decide) rfl (fun ls hl => ?_)
    refine lv_iconst (v := 0) hx hb dX8_gain_107 (by decide) ?_
    refine lv_istore (lv' := [(6, .int 0), (5, .int v22), (0, .ref (ad x0)), (1, .int x1), (3, .int x3), (4, .int x4)]) hx hb dX8_gain_108 hl (by decide) rfl (fun ls hl => ?_)
    exact wX8_gain_110 fu C hem σ20 x0 x1 x3 x4 v22 0 hf hB hS (lv_sub hl [2, 3, 4, 5, 1, 0] rfl)
  · have hf := hs_ff h18 hf
    refine lv_aload_n hx hb dX8_gain_84 rfl (lv_at hl 0 rfl) ?_
    refine lv_iload_n hx hb dX8_gain_85 rfl (lv_at hl 1 rfl) ?_
    refine lv_iload hx hb dX8_gain_86 (lv_at hl 3 rfl) ?_
    refine lv_iload hx hb dX8_gain_88 (lv_at hl 4 rfl) ?_
    refine lv_iconst (v := 1) hx hb dX8_gain_90 (by decide) ?_
    obtain ⟨_, h31, hf⟩ := hs_bi hf
    obtain ⟨_, σ30, h29, hf⟩ := hs_b2i hf
    refine hs_call0 (va_runV (As := [.int x1, .int x4, .int x5, .int 1]) (rest := []) ⟨hx, hb, hml, hown, hts⟩ (ctX8_helps l fu σ x0 x1 x4 x5 1 X ad H.size _ _ h29) (cwV 4 hts gX8_gain_X8_helps rfl rfl rfl (by decide +kernel) ⟨Nat.le_of_ble_eq_true rfl, Nat.le_of_ble_eq_true rfl⟩) (hs_preV (hs_recv hK hB (hs_ck_i h31) (by decide) rfl) hV hB hS hA0 hA hem) rfl rfl hl.1 rfl (lv_room (Nat.le_of_ble_eq_true rfl)) dX8_gain_91 ⟨Nat.le_of_ble_eq_true rfl, Nat.le_of_ble_eq_true rfl⟩) hB hS hA rfl (fun H locs hB hS => ?_)
    refine lv_iinc (v := (x5 + 1)) (lv' := [(5, .int (x5 + 1)), (0, .ref (ad x0)), (1, .int x1), (3, .int x3), (4, .int x4)]) hx hb dX8_gain_94 hl (k := 4) rfl rfl (by decide) rfl (fun ls hl => ?_)
    refine lv_goto (tgt := 73) hx hb dX8_gain_97 (by decide) ?_
    exact hk73 σ30 x0 x1 x3 x4 (x5 + 1) _ _ _ hf hB hS (lv_sub hl [1, 2, 3, 4, 0] rfl)
set_option maxRecDepth 100000 in
set_option maxHeartbeats 4000000 in
theorem wX8_gain_73 (fu : Nat) (C : hs_Cx p s m args meth c X A yX8_gain cX8_gain 7 (some .int) wsX8_gain) (hem : ad hs_em = X.2.2.1.2.2.2)  {H : Heap} {locs : List Loc} {ls : Array Slot} (σ : hs_T) (x0 : Nat) (x1 : Int32) (x3 : Int32) (x4 : Int32) (x5 : Int32) (hf : fX8_gain_73 fu  σ x0 x1 x3 x4 x5 = some (r, τ)) (hB : hs_H X.1 X.2.1 ad A σ H) (hS : va_S A s.heap H locs) (hl : lv_has ls 7 [(0, .ref (ad x0)), (1, .int x1), (3, .int x3), (4, .int x4), (5, .int x5)]) : W p l e rmX8_gain s m args below meth c H locs 0 0 (MQ below (hs_Q0 hs_tvi X ad A r τ) args s 0 0 A) (F0 m 73 ls []) := by
  unfold fX8_gain_73 at hf
  exact hs_lp_i (P := fun a => ∀ (H : Heap) (locs : List Loc) (ls : Array Slot), hs_H X.1 X.2.1 ad A a.1 H → va_S A s.heap H locs → lv_has ls 7 [(0, .ref (ad a.2.1)), (1, .int a.2.2.1), (3, .int a.2.2.2.1), (4, .int a.2.2.2.2.1), (5, .int a.2.2.2.2.2)] → W p l e rmX8_gain s m args below meth c H locs 0 0 (MQ below (hs_Q0 hs_tvi X ad A r τ) args s 0 0 A) (F0 m 73 ls [])) (fun k a hk hf H locs ls hB hS hl => wX8_gain_73b fu C hem  _ (fun σ x0 x1 x3 x4 x5 H locs ls hf hB hS hl => hk (σ, x0, x1, x3, x4, x5) hf H locs ls hB hS hl) a.1 a.2.1 a.2.2.1 a.2.2.2.1 a.2.2.2.2.1 a.2.2.2.2.2 hf hB hS hl) fu (σ, x0, x1, x3, x4, x5) hf H locs ls hB hS hl
set_option maxRecDepth 100000 in
set_option maxHeartbeats 4000000 in
theorem wX8_gain_4b (fu : Nat) (C : hs_Cx p s m args meth c X A yX8_gain cX8_gain 7 (some .int) wsX8_gain) (hem : ad hs_em = X.2.2.1.2.2.2)  (k4 : hs_T → Nat → Int32 → Int32 → Int32 → Option (Int32 × hs_T)) (hk4 : ∀ (σ : hs_T) (x0 : Nat) (x1 : Int32) (x2 : Int32) (x3 : Int32) (H : Heap) (locs : List Loc) (ls : Array Slot), k4 σ x0 x1 x2 x3 = some (r, τ) → hs_H X.1 X.2.1 ad A σ H → va_S A s.heap H locs → lv_has ls 7 [(0, .ref (ad x0)), (1, .int x1), (2, .int x2), (3, .int x3)] → W p l e rmX8_gain s m args below meth c H locs 0 0 (MQ below (hs_Q0 hs_tvi X ad A r τ) args s 0 0 A) (F0 m 4 ls [])) {H : Heap} {locs : List Loc} {ls : Array Slot} (σ : hs_T) (x0 : Nat) (x1 : Int32) (x2 : Int32) (x3 : Int32) (hf : fX8_gain_4b fu  k4 σ x0 x1 x2 x3 = some (r, τ)) (hB : hs_H X.1 X.2.1 ad A σ H) (hS : va_S A s.heap H locs) (hl : lv_has ls 7 [(0, .ref (ad x0)), (1, .int x1), (2, .int x2), (3, .int x3)]) : W p l e rmX8_gain s m args below meth c H locs 0 0 (MQ below (hs_Q0 hs_tvi X ad A r τ) args s 0 0 A) (F0 m 4 ls []) := by
  obtain ⟨hx, hb, hml, hr, hts, hown, hlk, hnm, hV, hA0, hA⟩ := id C
  have hown : s.vm.findClass RX8 = some m.cls := hown
  have hK := hV.1
  have hNw := hV.2.1
  unfold fX8_gain_4b at hf
  refine lv_iload_n hx hb dX8_gain_4 rfl (lv_at hl 3 rfl) ?_
  refine lv_bipush (v := 31) hx hb dX8_gain_5 (by decide) ?_
  refine lv_icmp_ge (tgt := 24) hx hb dX8_gain_7 (by decide) (fun h1 => ?_) (fun h1 => ?_)
  · have hf := hs_tt h1 hf
    refine lv_iload_n hx hb dX8_gain_24 rfl (lv_at hl 1 rfl) ?_
    refine lv_if_lt (tgt := 43) hx hb dX8_gain_25 (by decide) (fun h2 => ?_) (fun h2 => ?_)
    · have hf := hs_tt h2 hf
      exact wX8_gain_43 fu C hem σ  hf hB hS (lv_sub hl [] rfl)
    · have hf := hs_ff h2 hf
      refine lv_iload_n hx hb dX8_gain_28 rfl (lv_at hl 1 rfl) ?_
      refine lv_iconst (v := 1) hx hb dX8_gain_29 (by decide) ?_
      refine lv_aload_n hx hb dX8_gain_30 rfl (lv_at hl 0 rfl) ?_
      obtain ⟨v4, h3, hf⟩ := hs_bi hf
      refine x_getI hx hb hts inX8_gain_X8 hown hK hB (by decide) rfl (k := 0) (by decide) rfl h3 (hts _ lkX8_gain_1) (fun _ h9 => h9) dX8_gain_31 ?_
      refine lv_ishl hx hb dX8_gain_34 ?_
      refine lv_icmp_ge (tgt := 43) hx hb dX8_gain_35 (by decide) (fun h5 => ?_) (fun h5 => ?_)
      · have hf := hs_tt h5 hf
        exact wX8_gain_43 fu C hem σ  hf hB hS (lv_sub hl [] rfl)
      · have hf := hs_ff h5 hf
        refine lv_iload_n hx hb dX8_gain_38 rfl (lv_at hl 2 rfl) ?_
        refine lv_iconst (v := 2) hx hb dX8_gain_39 (by decide) ?_
        refine lv_icmp_ge (tgt := 46) hx hb dX8_gain_40 (by decide) (fun h6 => ?_) (fun h6 => ?_)
        · have hf := hs_tt h6 hf
          refine lv_aload_n hx hb dX8_gain_46 rfl (lv_at hl 0 rfl) ?_
          obtain ⟨v8, h7, hf⟩ := hs_bi hf
          refine x_getI hx hb hts inX8_gain_X8 hown hK hB (by decide) rfl (k := 1) (by decide) rfl h7 (hts _ lkX8_gain_2) (fun _ h9 => h9) dX8_gain_47 ?_
          refine lv_if_ne (tgt := 56) hx hb dX8_gain_50 (by decide) (fun h9 => ?_) (fun h9 => ?_)
          · have hf := hs_ff h9 hf
            refine lv_aload_n hx hb dX8_gain_56 rfl (lv_at hl 0 rfl) ?_
            refine lv_iload_n hx hb dX8_gain_57 rfl (lv_at hl 1 rfl) ?_
            obtain ⟨_, h12, hf⟩ := hs_bi hf
            obtain ⟨v13, σ11, h10, hf⟩ := hs_b2i hf
            refine hs_call0 (va_runV (As := [.int x1]) (rest := []) ⟨hx, hb, hml, hown, hts⟩ (ctX8_sumOf l fu σ x0 x1 X ad H.size _ _ h10) (cwV 1 hts gX8_gain_X8_sumOf rfl rfl rfl (by decide +kernel) ⟨Nat.le_of_ble_eq_true rfl, Nat.le_of_ble_eq_true rfl⟩) (hs_preV (hs_recv hK hB (hs_ck_i h12) (by decide) rfl) hV hB hS hA0 hA hem) rfl rfl hl.1 rfl (lv_room (Nat.le_of_ble_eq_true rfl)) dX8_gain_58 ⟨Nat.le_of_ble_eq_true rfl, Nat.le_of_ble_eq_true rfl⟩) hB hS hA rfl (fun H locs hB hS => ?_)
            refine lv_istore_n (lv' := [(3, .int v13), (0, .ref (ad x0)), (1, .int x1), (2, .int x2)]) hx hb dX8_gain_61 rfl hl (by decide) rfl (fun ls hl => ?_)
            refine lv_aload_n hx hb dX8_gain_62 rfl (lv_at hl 1 rfl) ?_
            obtain ⟨v15, h14, hf⟩ := hs_bi hf
            refine x_getI hx hb hts inX8_gain_X8 hown hK hB (by decide) rfl (k := 1) (by decide) rfl h14 (hts _ lkX8_gain_2) (fun _ h9 => h9) dX8_gain_63 ?_
            refine lv_iconst (v := 1) hx hb dX8_gain_66 (by decide) ?_
            refine lv_isub hx hb dX8_gain_67 ?_
            refine lv_istore (lv' := [(4, .int (v15 - 1)), (3, .int v13), (0, .ref (ad x0)), (1, .int x1), (2, .int x2)]) hx hb dX8_gain_68 hl (by decide) rfl (fun ls hl => ?_)
            refine lv_iconst (v := 0) hx hb dX8_gain_70 (by decide) ?_
            refine lv_istore (lv' := [(5, .int 0), (4, .int (v15 - 1)), (3, .int v13), (0, .ref (ad x0)), (1, .int x1), (2, .int x2)]) hx hb dX8_gain_71 hl (by decide) rfl (fun ls hl => ?_)
            exact wX8_gain_73 fu C hem σ11 x0 x1 v13 (v15 - 1) 0 hf hB hS (lv_sub hl [3, 4, 2, 1, 0] rfl)
          · have hf := hs_tt h9 hf
            refine lv_ldc hx hb hown (hts _ lkX8_gain_3) dX8_gain_53 ?_
            obtain ⟨rfl, rfl⟩ := hs_ri hf
            exact hs_iret hx hb hr hlk hB hS dX8_gain_55
        · have hf := hs_ff h6 hf
          exact wX8_gain_43 fu C hem σ  hf hB hS (lv_sub hl [] rfl)
  · have hf := hs_ff h1 hf
    refine lv_iload_n hx hb dX8_gain_10 rfl (lv_at hl 2 rfl) ?_
    refine lv_iload_n hx hb dX8_gain_11 rfl (lv_at hl 1 rfl) ?_
    refine lv_iload_n hx hb dX8_gain_12 rfl (lv_at hl 3 rfl) ?_
    refine lv_ishr hx hb dX8_gain_13 ?_
    refine lv_iconst (v := 1) hx hb dX8_gain_14 (by decide) ?_
    refine lv_iand hx hb dX8_gain_15 ?_
    refine lv_iadd hx hb dX8_gain_16 ?_
    refine lv_istore_n (lv' := [(2, .int (x2 + ((x1 >>> (x3 &&& 31)) &&& 1))), (0, .ref (ad x0)), (1, .int x1), (3, .int x3)]) hx hb dX8_gain_17 rfl hl (by decide) rfl (fun ls hl => ?_)
    refine lv_iinc (v := (x3 + 1)) (lv' := [(3, .int (x3 + 1)), (2, .int (x2 + ((x1 >>> (x3 &&& 31)) &&& 1))), (0, .ref (ad x0)), (1, .int x1)]) hx hb dX8_gain_18 hl (k := 3) rfl rfl (by decide) rfl (fun ls hl => ?_)
    refine lv_goto (tgt := 4) hx hb dX8_gain_21 (by decide) ?_
    exact hk4 σ x0 x1 (x2 + ((x1 >>> (x3 &&& 31)) &&& 1)) (x3 + 1) _ _ _ hf hB hS (lv_sub hl [2, 3, 1, 0] rfl)
set_option maxRecDepth 100000 in
set_option maxHeartbeats 4000000 in
theorem wX8_gain_4 (fu : Nat) (C : hs_Cx p s m args meth c X A yX8_gain cX8_gain 7 (some .int) wsX8_gain) (hem : ad hs_em = X.2.2.1.2.2.2)  {H : Heap} {locs : List Loc} {ls : Array Slot} (σ : hs_T) (x0 : Nat) (x1 : Int32) (x2 : Int32) (x3 : Int32) (hf : fX8_gain_4 fu  σ x0 x1 x2 x3 = some (r, τ)) (hB : hs_H X.1 X.2.1 ad A σ H) (hS : va_S A s.heap H locs) (hl : lv_has ls 7 [(0, .ref (ad x0)), (1, .int x1), (2, .int x2), (3, .int x3)]) : W p l e rmX8_gain s m args below meth c H locs 0 0 (MQ below (hs_Q0 hs_tvi X ad A r τ) args s 0 0 A) (F0 m 4 ls []) := by
  unfold fX8_gain_4 at hf
  exact hs_lp_i (P := fun a => ∀ (H : Heap) (locs : List Loc) (ls : Array Slot), hs_H X.1 X.2.1 ad A a.1 H → va_S A s.heap H locs → lv_has ls 7 [(0, .ref (ad a.2.1)), (1, .int a.2.2.1), (2, .int a.2.2.2.1), (3, .int a.2.2.2.2)] → W p l e rmX8_gain s m args below meth c H locs 0 0 (MQ below (hs_Q0 hs_tvi X ad A r τ) args s 0 0 A) (F0 m 4 ls [])) (fun k a hk hf H locs ls hB hS hl => wX8_gain_4b fu C hem  _ (fun σ x0 x1 x2 x3 H locs ls hf hB hS hl => hk (σ, x0, x1, x2, x3) hf H locs ls hB hS hl) a.1 a.2.1 a.2.2.1 a.2.2.2.1 a.2.2.2.2 hf hB hS hl) fu (σ, x0, x1, x2, x3) hf H locs ls hB hS hl
set_option maxRecDepth 100000 in
set_option maxHeartbeats 4000000 in
theorem wX8_gain_e (fu : Nat) (C : hs_Cx p s m args meth c X A yX8_gain cX8_gain 7 (some .int) wsX8_gain) (hem : ad hs_em = X.2.2.1.2.2.2) {H : Heap} {locs : List Loc} {ls : Array Slot} (σ : hs_T) (o : Nat) (a1 : Int32) (hf : fX8_gain fu σ o a1 = some (r, τ)) (hB : hs_H X.1 X.2.1 ad A σ H) (hS : va_S A s.heap H locs) (hl : lv_has ls 7 [(0, .ref (ad o)), (1, .int a1)]) : W p l e rmX8_gain s m args below meth c H locs 0 0 (MQ below (hs_Q0 hs_tvi X ad A r τ) args s 0 0 A) (F0 m 0 ls []) := by
  obtain ⟨hx, hb, hml, hr, hts, hown, hlk, hnm, hV, hA0, hA⟩ := id C
  have hown : s.vm.findClass RX8 = some m.cls := hown
  have hK := hV.1
  have hNw := hV.2.1
  unfold fX8_gain at hf
  refine lv_iconst (v := 0) hx hb dX8_gain_0 (by decide) ?_
  refine lv_istore_n (lv' := [(2, .int 0), (0, .ref (ad o)), (1, .int a1)]) hx hb dX8_gain_1 rfl hl (by decide) rfl (fun ls hl => ?_)
  refine lv_iconst (v := 0) hx hb dX8_gain_2 (by decide) ?_
  refine lv_istore_n (lv' := [(3, .int 0), (2, .int 0), (0, .ref (ad o)), (1, .int a1)]) hx hb dX8_gain_3 rfl hl (by decide) rfl (fun ls hl => ?_)
  exact wX8_gain_4 fu C hem σ o a1 0 0 hf hB hS (lv_sub hl [2, 3, 1, 0] rfl)
end SX8_gain
set_option maxRecDepth 100000 in
theorem ctX8_gain (l : Launch) (fu : Nat) (σ : hs_T) (o : Nat) (a1 : Int32) : hs_C0 hs_tvi l yX8_gain wsX8_gain rmX8_gain (fun ad => [.ref (ad o), .int a1]) σ (fX8_gain fu σ o a1) := by
  intro X ad sz r τ hf
  refine hs_enter (cc := cX8_gain) (maxL := 7) (ret := (some .int)) (by decide) rfl (Nat.le_of_ble_eq_true rfl) ?_
  intro p e s m below meth c ls C hl hem hB hS hsz
  exact wX8_gain_e fu C hem σ o a1 hf hB hS hl
/-! ServiceGameModel.alike(II)I -/
abbrev rmX8_alike : Room := { frames := 2, cells := 0, slots := 0, locals := 47 }
theorem inX8_alike_X8 : ∀ w ∈ wsX80, w ∈ wsX8_alike := fun _ h => List.mem_cons_of_mem _ (List.mem_append_right _ h)
theorem lkX8_alike_0 : Cond.fieldLink RX8 118 "ServiceGameModel" "rounds" "I" ∈ wsX8_alike := by decide +kernel
theorem lkX8_alike_1 : Cond.fieldLink RX8 219 "ServiceGameModel" "ahead" "I" ∈ wsX8_alike := by decide +kernel
theorem lkX8_alike_2 : Cond.fieldLink RX8 62 "ServiceGameModel" "aheadTo" "[I" ∈ wsX8_alike := by decide +kernel
theorem lkX8_alike_3 : Cond.fieldLink RX8 65 "ServiceGameModel" "aheadA" "[I" ∈ wsX8_alike := by decide +kernel
theorem lkX8_alike_4 : Cond.fieldLink RX8 74 "ServiceGameModel" "which" "[I" ∈ wsX8_alike := by decide +kernel
theorem lkX8_alike_5 : Cond.fieldLink RX8 68 "ServiceGameModel" "aheadB" "[I" ∈ wsX8_alike := by decide +kernel
theorem lkX8_alike_6 : Cond.fieldLink RX8 77 "ServiceGameModel" "second" "[I" ∈ wsX8_alike := by decide +kernel
def fX8_alike_48b (fu : Nat) (k33 : hs_T → Nat → Int32 → Int32 → Int32 → Option (Int32 × hs_T)) (k48 : hs_T → Nat → Int32 → Int32 → Int32 → Int32 → Int32 → Option (Int32 × hs_T)) (σ : hs_T) (x0 : Nat) (x3 : Int32) (x4 : Int32) (x5 : Int32) (x6 : Int32) (x7 : Int32) : Option (Int32 × hs_T) :=
 if 3 ≤ x7 then
 ((hs_gN σ 10 x0 25).bind fun n14 =>
 (hs_ld σ 11 n14 x5).bind fun v15 =>
 if v15 = x3 then
 (if x6 = 0 then
 (k33 σ x0 x3 (x4 + 0) (x5 + 1))
 else
 (k33 σ x0 x3 (x4 + 1) (x5 + 1)))
 else
 (k33 σ x0 x3 (x4 + 0) (x5 + 1)))
 else
 (if x6 = 0 then
 ((hs_gN σ 10 x0 26).bind fun n21 =>
 (hs_ld σ 11 n21 x5).bind fun v22 =>
 (hs_gN σ 10 x0 32).bind fun n25 =>
 (hs_ld σ 11 n25 ((3 * x3) + x7)).bind fun v26 =>
 if v22 = (v26 + 1) then
 ((hs_gN σ 10 x0 27).bind fun n30 =>
 (hs_ld σ 11 n30 x5).bind fun v31 =>
 (hs_gN σ 10 x0 33).bind fun n34 =>
 (hs_ld σ 11 n34 ((3 * x3) + x7)).bind fun v35 =>
 if v31 = v35 then
 (k48 σ x0 x3 x4 x5 1 (x7 + 1))
 else
 (k48 σ x0 x3 x4 x5 0 (x7 + 1)))
 else
 (k48 σ x0 x3 x4 x5 0 (x7 + 1)))
 else
 (k48 σ x0 x3 x4 x5 1 (x7 + 1)))
def fX8_alike_48 (fu : Nat) (k33 : hs_T → Nat → Int32 → Int32 → Int32 → Option (Int32 × hs_T)) (σ : hs_T) (x0 : Nat) (x3 : Int32) (x4 : Int32) (x5 : Int32) (x6 : Int32) (x7 : Int32) : Option (Int32 × hs_T) :=
   hs_lp (fun (k : hs_T × Nat × Int32 × Int32 × Int32 × Int32 × Int32 → Option (Int32 × hs_T)) (a : hs_T × Nat × Int32 × Int32 × Int32 × Int32 × Int32) => fX8_alike_48b fu k33 (fun σ x0 x3 x4 x5 x6 x7 => k (σ, x0, x3, x4, x5, x6, x7)) a.1 a.2.1 a.2.2.1 a.2.2.2.1 a.2.2.2.2.1 a.2.2.2.2.2.1 a.2.2.2.2.2.2) fu (σ, x0, x3, x4, x5, x6, x7)
def fX8_alike_33b (fu : Nat)  (k33 : hs_T → Nat → Int32 → Int32 → Int32 → Option (Int32 × hs_T)) (σ : hs_T) (x0 : Nat) (x3 : Int32) (x4 : Int32) (x5 : Int32) : Option (Int32 × hs_T) :=
 (hs_gI σ 10 x0 29).bind fun v10 =>
 if v10 ≤ x5 then
 (some (x4, σ))
 else
 (fX8_alike_48 fu k33 σ x0 x3 x4 x5 0 0)
def fX8_alike_33 (fu : Nat)  (σ : hs_T) (x0 : Nat) (x3 : Int32) (x4 : Int32) (x5 : Int32) : Option (Int32 × hs_T) :=
   hs_lp (fun (k : hs_T × Nat × Int32 × Int32 × Int32 → Option (Int32 × hs_T)) (a : hs_T × Nat × Int32 × Int32 × Int32) => fX8_alike_33b fu  (fun σ x0 x3 x4 x5 => k (σ, x0, x3, x4, x5)) a.1 a.2.1 a.2.2.1 a.2.2.2.1 a.2.2.2.2) fu (σ, x0, x3, x4, x5)
def fX8_alike (fu : Nat) (σ : hs_T) (o : Nat) (a1 : Int32) (a2 : Int32) : Option (Int32 × hs_T) :=
 (hs_ck σ 10 o).bind fun _ =>
 hs_b2 (fX8_isPlace fu σ o a1 a2) fun v4 σ2 =>
 if v4 = 0 then
 (some ((-1), σ2))
 else
 ((hs_gI σ2 10 o 1).bind fun v7 =>
 if v7 = 0 then
 (some ((-3), σ2))
 else
 (fX8_alike_33 fu σ2 o ((3 * a1) + a2) 0 0))
section SX8_alike
variable {p : Program} {l : Launch} {e : Env} {s : State} {m : MethodId} {args : Array Value} {below : List Frame} {meth : Method} {c : Code} {X : hs_X} {ad : Nat → Nat} {A : Nat → Prop} {r : Int32} {τ : hs_T}
set_option maxRecDepth 100000 in
set_option maxHeartbeats 4000000 in
theorem wX8_alike_48b (fu : Nat) (C : hs_Cx p s m args meth c X A yX8_alike cX8_alike 8 (some .int) wsX8_alike) (hem : ad hs_em = X.2.2.1.2.2.2) (k33 : hs_T → Nat → Int32 → Int32 → Int32 → Option (Int32 × hs_T)) (hk33 : ∀ (σ : hs_T) (x0 : Nat) (x3 : Int32) (x4 : Int32) (x5 : Int32) (H : Heap) (locs : List Loc) (ls : Array Slot), k33 σ x0 x3 x4 x5 = some (r, τ) → hs_H X.1 X.2.1 ad A σ H → va_S A s.heap H locs → lv_has ls 8 [(0, .ref (ad x0)), (3, .int x3), (4, .int x4), (5, .int x5)] → W p l e rmX8_alike s m args below meth c H locs 0 0 (MQ below (hs_Q0 hs_tvi X ad A r τ) args s 0 0 A) (F0 m 33 ls [])) (k48 : hs_T → Nat → Int32 → Int32 → Int32 → Int32 → Int32 → Option (Int32 × hs_T)) (hk48 : ∀ (σ : hs_T) (x0 : Nat) (x3 : Int32) (x4 : Int32) (x5 : Int32) (x6 : Int32) (x7 : Int32) (H : Heap) (locs : List Loc) (ls : Array Slot), k48 σ x0 x3 x4 x5 x6 x7 = some (r, τ) → hs_H X.1 X.2.1 ad A σ H → va_S A s.heap H locs → lv_has ls 8 [(0, .ref (ad x0)), (3, .int x3), (4, .int x4), (5, .int x5), (6, .int x6), (7, .int x7)] → W p l e rmX8_alike s m args below meth c H locs 0 0 (MQ below (hs_Q0 hs_tvi X ad A r τ) args s 0 0 A) (F0 m 48 ls [])) {H : Heap} {locs : List Loc} {ls : Array Slot} (σ : hs_T) (x0 : Nat) (x3 : Int32) (x4 : Int32) (x5 : Int32) (x6 : Int32) (x7 : Int32) (hf : fX8_alike_48b fu k33 k48 σ x0 x3 x4 x5 x6 x7 = some (r, τ)) (hB : hs_H X.1 X.2.1 ad A σ H) (hS : va_S A s.heap H locs) (hl : lv_has ls 8 [(0, .ref (ad x0)), (3, .int x3), (4, .int x4), (5, .int x5), (6, .int x6), (7, .int x7)]) : W p l e rmX8_alike s m args below meth c H locs 0 0 (MQ below (hs_Q0 hs_tvi X ad A r τ) args s 0 0 A) (F0 m 48 ls []) := by
  obtain ⟨hx, hb, hml, hr, hts, hown, hlk, hnm, hV, hA0, hA⟩ := id C
  have hown : s.vm.findClass RX8 = some m.cls := hown
  have hK := hV.1
  have hNw := hV.2.1
  unfold fX8_alike_48b at hf
  refine lv_iload hx hb dX8_alike_48 (lv_at hl 5 rfl) ?_
  refine lv_iconst (v := 3) hx hb dX8_alike_50 (by decide) ?_
  refine lv_icmp_ge (tgt := 116) hx hb dX8_alike_51 (by decide) (fun h12 => ?_) (fun h12 => ?_)
  · have hf := hs_tt h12 hf
    refine lv_iload hx hb dX8_alike_116 (lv_at hl 2 rfl) ?_
    refine lv_aload_n hx hb dX8_alike_118 rfl (lv_at hl 0 rfl) ?_
    obtain ⟨n14, h13, hf⟩ := hs_bi hf
    refine x_getN hx hb hts inX8_alike_X8 hown hK hB (by decide) rfl (k := 25) (by decide) rfl h13 (hts _ lkX8_alike_2) (fun _ h9 => h9) dX8_alike_119 ?_
    refine lv_iload hx hb dX8_alike_122 (lv_at hl 3 rfl) ?_
    obtain ⟨v15, h16, hf⟩ := hs_bi hf
    refine x_iald hx hb hK hB h16 dX8_alike_124 ?_
    refine lv_iload_n hx hb dX8_alike_125 rfl (lv_at hl 1 rfl) ?_
    refine lv_icmp_ne (tgt := 138) hx hb dX8_alike_126 (by decide) (fun h17 => ?_) (fun h17 => ?_)
    · have hf := hs_ff h17 hf
      refine lv_iconst (v := 0) hx hb dX8_alike_138 (by decide) ?_
      refine lv_iadd hx hb dX8_alike_139 ?_
      refine lv_istore (lv' := [(4, .int (x4 + 0)), (0, .ref (ad x0)), (3, .int x3), (5, .int x5), (6, .int x6), (7, .int x7)]) hx hb dX8_alike_140 hl (by decide) rfl (fun ls hl => ?_)
      refine lv_iinc (v := (x5 + 1)) (lv' := [(5, .int (x5 + 1)), (4, .int (x4 + 0)), (0, .ref (ad x0)), (3, .int x3), (6, .int x6), (7, .int x7)]) hx hb dX8_alike_142 hl (k := 3) rfl rfl (by decide) rfl (fun ls hl => ?_)
      refine lv_goto (tgt := 33) hx hb dX8_alike_145 (by decide) ?_
      exact hk33 σ x0 x3 (x4 + 0) (x5 + 1) _ _ _ hf hB hS (lv_sub hl [2, 3, 1, 0] rfl)
    · have hf := hs_tt h17 hf
      refine lv_iload hx hb dX8_alike_129 (lv_at hl 4 rfl) ?_
      refine lv_if_eq (tgt := 138) hx hb dX8_alike_131 (by decide) (fun h18 => ?_) (fun h18 => ?_)
      · have hf := hs_tt h18 hf
        refine lv_iconst (v := 0) hx hb dX8_alike_138 (by decide) ?_
        refine lv_iadd hx hb dX8_alike_139 ?_
        refine lv_istore (lv' := [(4, .int (x4 + 0)), (0, .ref (ad x0)), (3, .int x3), (5, .int x5), (6, .int x6), (7, .int x7)]) hx hb dX8_alike_140 hl (by decide) rfl (fun ls hl => ?_)
        refine lv_iinc (v := (x5 + 1)) (lv' := [(5, .int (x5 + 1)), (4, .int (x4 + 0)), (0, .ref (ad x0)), (3, .int x3), (6, .int x6), (7, .int x7)]) hx hb dX8_alike_142 hl (k := 3) rfl rfl (by decide) rfl (fun ls hl => ?_)
        refine lv_goto (tgt := 33) hx hb dX8_alike_145 (by decide) ?_
        exact hk33 σ x0 x3 (x4 + 0) (x5 + 1) _ _ _ hf hB hS (lv_sub hl [2, 3, 1, 0] rfl)
      · have hf := hs_ff h18 hf
        refine lv_iconst (v := 1) hx hb dX8_alike_134 (by decide) ?_
        refine lv_goto (tgt := 139) hx hb dX8_alike_135 (by decide) ?_
        refine lv_iadd hx hb dX8_alike_139 ?_
        refine lv_istore (lv' := [(4, .int (x4 + 1)), (0, .ref (ad x0)), (3, .int x3), (5, .int x5), (6, .int x6), (7, .int x7)]) hx hb dX8_alike_140 hl (by decide) rfl (fun ls hl => ?_)
        refine lv_iinc (v := (x5 + 1)) (lv' := [(5, .int (x5 + 1)), (4, .int (x4 + 1)), (0, .ref (ad x0)), (3, .int x3), (6, .int x6), (7, .int x7)]) hx hb dX8_alike_142 hl (k := 3) rfl rfl (by decide) rfl (fun ls hl => ?_)
        refine lv_goto (tgt := 33) hx hb dX8_alike_145 (by decide) ?_
        exact hk33 σ x0 x3 (x4 + 1) (x5 + 1) _ _ _ hf hB hS (lv_sub hl [2, 3, 1, 0] rfl)
  · have hf := hs_ff h12 hf
    refine lv_iload hx hb dX8_alike_54 (lv_at hl 4 rfl) ?_
    refine lv_if_ne (tgt := 103) hx hb dX8_alike_56 (by decide) (fun h19 => ?_) (fun h19 => ?_)
    · have hf := hs_ff h19 hf
      refine lv_iconst (v := 1) hx hb dX8_alike_103 (by decide) ?_
      refine lv_goto (tgt := 108) hx hb dX8_alike_104 (by decide) ?_
      refine lv_istore (lv' := [(6, .int 1), (0, .ref (ad x0)), (3, .int x3), (4, .int x4), (5, .int x5), (7, .int x7)]) hx hb dX8_alike_108 hl (by decide) rfl (fun ls hl => ?_)
      refine lv_iinc (v := (x7 + 1)) (lv' := [(7, .int (x7 + 1)), (6, .int 1), (0, .ref (ad x0)), (3, .int x3), (4, .int x4), (5, .int x5)]) hx hb dX8_alike_110 hl (k := 5) rfl rfl (by decide) rfl (fun ls hl => ?_)
      refine lv_goto (tgt := 48) hx hb dX8_alike_113 (by decide) ?_
      exact hk48 σ x0 x3 x4 x5 1 (x7 + 1) _ _ _ hf hB hS (lv_sub hl [2, 3, 4, 5, 1, 0] rfl)
    · have hf := hs_tt h19 hf
      refine lv_aload_n hx hb dX8_alike_59 rfl (lv_at hl 0 rfl) ?_
      obtain ⟨n21, h20, hf⟩ := hs_bi hf
      refine x_getN hx hb hts inX8_alike_X8 hown hK hB (by decide) rfl (k := 26) (by decide) rfl h20 (hts _ lkX8_alike_3) (fun _ h9 => h9) dX8_alike_60 ?_
      refine lv_iload hx hb dX8_alike_63 (lv_at hl 3 rfl) ?_
      obtain ⟨v22, h23, hf⟩ := hs_bi hf
      refine x_iald hx hb hK hB h23 dX8_alike_65 ?_
      refine lv_aload_n hx hb dX8_alike_66 rfl (lv_at hl 0 rfl) ?_
      obtain ⟨n25, h24, hf⟩ := hs_bi hf
      refine x_getN hx hb hts inX8_alike_X8 hown hK hB (by decide) rfl (k := 32) (by decide) rfl h24 (hts _ lkX8_alike_4) (fun _ h9 => h9) dX8_alike_67 ?_
      refine lv_iconst (v := 3) hx hb dX8_alike_70 (by decide) ?_
      refine lv_iload_n hx hb dX8_alike_71 rfl (lv_at hl 1 rfl) ?_
      refine lv_imul hx hb dX8_alike_72 ?_
      refine lv_iload hx hb dX8_alike_73 (lv_at hl 5 rfl) ?_
      refine lv_iadd hx hb dX8_alike_75 ?_
      obtain ⟨v26, h27, hf⟩ := hs_bi hf
      refine x_iald hx hb hK hB h27 dX8_alike_76 ?_
      refine lv_iconst (v := 1) hx hb dX8_alike_77 (by decide) ?_
      refine lv_iadd hx hb dX8_alike_78 ?_
      refine lv_icmp_ne (tgt := 107) hx hb dX8_alike_79 (by decide) (fun h28 => ?_) (fun h28 => ?_)
      · have hf := hs_ff h28 hf
        refine lv_iconst (v := 0) hx hb dX8_alike_107 (by decide) ?_
        refine lv_istore (lv' := [(6, .int 0), (0, .ref (ad x0)), (3, .int x3), (4, .int x4), (5, .int x5), (7, .int x7)]) hx hb dX8_alike_108 hl (by decide) rfl (fun ls hl => ?_)
        refine lv_iinc (v := (x7 + 1)) (lv' := [(7, .int (x7 + 1)), (6, .int 0), (0, .ref (ad x0)), (3, .int x3), (4, .int x4), (5, .int x5)]) hx hb dX8_alike_110 hl (k := 5) rfl rfl (by decide) rfl (fun ls hl => ?_)
        refine lv_goto (tgt := 48) hx hb dX8_alike_113 (by decide) ?_
        exact hk48 σ x0 x3 x4 x5 0 (x7 + 1) _ _ _ hf hB hS (lv_sub hl [2, 3, 4, 5, 1, 0] rfl)
      · have hf := hs_tt h28 hf
        refine lv_aload_n hx hb dX8_alike_82 rfl (lv_at hl 0 rfl) ?_
        obtain ⟨n30, h29, hf⟩ := hs_bi hf
        refine x_getN hx hb hts inX8_alike_X8 hown hK hB (by decide) rfl (k := 27) (by decide) rfl h29 (hts _ lkX8_alike_5) (fun _ h9 => h9) dX8_alike_83 ?_
        refine lv_iload hx hb dX8_alike_86 (lv_at hl 3 rfl) ?_
        obtain ⟨v31, h32, hf⟩ := hs_bi hf
        refine x_iald hx hb hK hB h32 dX8_alike_88 ?_
        refine lv_aload_n hx hb dX8_alike_89 rfl (lv_at hl 0 rfl) ?_
        obtain ⟨n34, h33, hf⟩ := hs_bi hf
        refine x_getN hx hb hts inX8_alike_X8 hown hK hB (by decide) rfl (k := 33) (by decide) rfl h33 (hts _ lkX8_alike_6) (fun _ h9 => h9) dX8_alike_90 ?_
        refine lv_iconst (v := 3) hx hb dX8_alike_93 (by decide) ?_
        refine lv_iload_n hx hb dX8_alike_94 rfl (lv_at hl 1 rfl) ?_
        refine lv_imul hx hb dX8_alike_95 ?_
        refine lv_iload hx hb dX8_alike_96 (lv_at hl 5 rfl) ?_
        refine lv_iadd hx hb dX8_alike_98 ?_
        obtain ⟨v35, h36, hf⟩ := hs_bi hf
        refine x_iald hx hb hK hB h36 dX8_alike_99 ?_
        refine lv_icmp_ne (tgt := 107) hx hb dX8_alike_100 (by decide) (fun h37 => ?_) (fun h37 => ?_)
        · have hf := hs_ff h37 hf
          refine lv_iconst (v := 0) hx hb dX8_alike_107 (by decide) ?_
          refine lv_istore (lv' := [(6, .int 0), (0, .ref (ad x0)), (3, .int x3), (4, .int x4), (5, .int x5), (7, .int x7)]) hx hb dX8_alike_108 hl (by decide) rfl (fun ls hl => ?_)
          refine lv_iinc (v := (x7 + 1)) (lv' := [(7, .int (x7 + 1)), (6, .int 0), (0, .ref (ad x0)), (3, .int x3), (4, .int x4), (5, .int x5)]) hx hb dX8_alike_110 hl (k := 5) rfl rfl (by decide) rfl (fun ls hl => ?_)
          refine lv_goto (tgt := 48) hx hb dX8_alike_113 (by decide) ?_
          exact hk48 σ x0 x3 x4 x5 0 (x7 + 1) _ _ _ hf hB hS (lv_sub hl [2, 3, 4, 5, 1, 0] rfl)
        · have hf := hs_tt h37 hf
          refine lv_iconst (v := 1) hx hb dX8_alike_103 (by decide) ?_
          refine lv_goto (tgt := 108) hx hb dX8_alike_104 (by decide) ?_
          refine lv_istore (lv' := [(6, .int 1), (0, .ref (ad x0)), (3, .int x3), (4, .int x4), (5, .int x5), (7, .int x7)]) hx hb dX8_alike_108 hl (by decide) rfl (fun ls hl => ?_)
          refine lv_iinc (v := (x7 + 1)) (lv' := [(7, .int (x7 + 1)), (6, .int 1), (0, .ref (ad x0)), (3, .int x3), (4, .int x4), (5, .int x5)]) hx hb dX8_alike_110 hl (k := 5) rfl rfl (by decide) rfl (fun ls hl => ?_)
          refine lv_goto (tgt := 48) hx hb dX8_alike_113 (by decide) ?_
          exact hk48 σ x0 x3 x4 x5 1 (x7 + 1) _ _ _ hf hB hS (lv_sub hl [2, 3, 4, 5, 1, 0] rfl)
set_option maxRecDepth 100000 in
set_option maxHeartbeats 4000000 in
theorem wX8_alike_48 (fu : Nat) (C : hs_Cx p s m args meth c X A yX8_alike cX8_alike 8 (some .int) wsX8_alike) (hem : ad hs_em = X.2.2.1.2.2.2) (k33 : hs_T → Nat → Int32 → Int32 → Int32 → Option (Int32 × hs_T)) (hk33 : ∀ (σ : hs_T) (x0 : Nat) (x3 : Int32) (x4 : Int32) (x5 : Int32) (H : Heap) (locs : List Loc) (ls : Array Slot), k33 σ x0 x3 x4 x5 = some (r, τ) → hs_H X.1 X.2.1 ad A σ H → va_S A s.heap H locs → lv_has ls 8 [(0, .ref (ad x0)), (3, .int x3), (4, .int x4), (5, .int x5)] → W p l e rmX8_alike s m args below meth c H locs 0 0 (MQ below (hs_Q0 hs_tvi X ad A r τ) args s 0 0 A) (F0 m 33 ls [])) {H : Heap} {locs : List Loc} {ls : Array Slot} (σ : hs_T) (x0 : Nat) (x3 : Int32) (x4 : Int32) (x5 : Int32) (x6 : Int32) (x7 : Int32) (hf : fX8_alike_48 fu k33 σ x0 x3 x4 x5 x6 x7 = some (r, τ)) (hB : hs_H X.1 X.2.1 ad A σ H) (hS : va_S A s.heap H locs) (hl : lv_has ls 8 [(0, .ref (ad x0)), (3, .int x3), (4, .int x4), (5, .int x5), (6, .int x6), (7, .int x7)]) : W p l e rmX8_alike s m args below meth c H locs 0 0 (MQ below (hs_Q0 hs_tvi X ad A r τ) args s 0 0 A) (F0 m 48 ls []) := by
  unfold fX8_alike_48 at hf
  exact hs_lp_i (P := fun a => ∀ (H : Heap) (locs : List Loc) (ls : Array Slot), hs_H X.1 X.2.1 ad A a.1 H → va_S A s.heap H locs → lv_has ls 8 [(0, .ref (ad a.2.1)), (3, .int a.2.2.1), (4, .int a.2.2.2.1), (5, .int a.2.2.2.2.1), (6, .int a.2.2.2.2.2.1), (7, .int a.2.2.2.2.2.2)] → W p l e rmX8_alike s m args below meth c H locs 0 0 (MQ below (hs_Q0 hs_tvi X ad A r τ) args s 0 0 A) (F0 m 48 ls [])) (fun k a hk hf H locs ls hB hS hl => wX8_alike_48b fu C hem k33 hk33 _ (fun σ x0 x3 x4 x5 x6 x7 H locs ls hf hB hS hl => hk (σ, x0, x3, x4, x5, x6, x7) hf H locs ls hB hS hl) a.1 a.2.1 a.2.2.1 a.2.2.2.1 a.2.2.2.2.1 a.2.2.2.2.2.1 a.2.2.2.2.2.2 hf hB hS hl) fu (σ, x0, x3, x4, x5, x6, x7) hf H locs ls hB hS hl
set_option maxRecDepth 100000 in
set_option maxHeartbeats 4000000 in
theorem wX8_alike_33b (fu : Nat) (C : hs_Cx p s m args meth c X A yX8_alike cX8_alike 8 (some .int) wsX8_alike) (hem : ad hs_em = X.2.2.1.2.2.2)  (k33 : hs_T → Nat → Int32 → Int32 → Int32 → Option (Int32 × hs_T)) (hk33 : ∀ (σ : hs_T) (x0 : Nat) (x3 : Int32) (x4 : Int32) (x5 : Int32) (H : Heap) (locs : List Loc) (ls : Array Slot), k33 σ x0 x3 x4 x5 = some (r, τ) → hs_H X.1 X.2.1 ad A σ H → va_S A s.heap H locs → lv_has ls 8 [(0, .ref (ad x0)), (3, .int x3), (4, .int x4), (5, .int x5)] → W p l e rmX8_alike s m args below meth c H locs 0 0 (MQ below (hs_Q0 hs_tvi X ad A r τ) args s 0 0 A) (F0 m 33 ls [])) {H : Heap} {locs : List Loc} {ls : Array Slot} (σ : hs_T) (x0 : Nat) (x3 : Int32) (x4 : Int32) (x5 : Int32) (hf : fX8_alike_33b fu  k33 σ x0 x3 x4 x5 = some (r, τ)) (hB : hs_H X.1 X.2.1 ad A σ H) (hS : va_S A s.heap H locs) (hl : lv_has ls 8 [(0, .ref (ad x0)), (3, .int x3), (4, .int x4), (5, .int x5)]) : W p l e rmX8_alike s m args below meth c H locs 0 0 (MQ below (hs_Q0 hs_tvi X ad A r τ) args s 0 0 A) (F0 m 33 ls []) := by
  obtain ⟨hx, hb, hml, hr, hts, hown, hlk, hnm, hV, hA0, hA⟩ := id C
  have hown : s.vm.findClass RX8 = some m.cls := hown
  have hK := hV.1
  have hNw := hV.2.1
  unfold fX8_alike_33b at hf
  refine lv_iload hx hb dX8_alike_33 (lv_at hl 3 rfl) ?_
  refine lv_aload_n hx hb dX8_alike_35 rfl (lv_at hl 0 rfl) ?_
  obtain ⟨v10, h9, hf⟩ := hs_bi hf
  refine x_getI hx hb hts inX8_alike_X8 hown hK hB (by decide) rfl (k := 29) (by decide) rfl h9 (hts _ lkX8_alike_1) (fun _ h9 => h9) dX8_alike_36 ?_
  refine lv_icmp_ge (tgt := 148) hx hb dX8_alike_39 (by decide) (fun h11 => ?_) (fun h11 => ?_)
  · have hf := hs_tt h11 hf
    refine lv_iload hx hb dX8_alike_148 (lv_at hl 2 rfl) ?_
    obtain ⟨rfl, rfl⟩ := hs_ri hf
    exact hs_iret hx hb hr hlk hB hS dX8_alike_150
  · have hf := hs_ff h11 hf
    refine lv_iconst (v := 0) hx hb dX8_alike_42 (by decide) ?_
    refine lv_istore (lv' := [(6, .int 0), (0, .ref (ad x0)), (3, .int x3), (4, .int x4), (5, .int x5)]) hx hb dX8_alike_43 hl (by decide) rfl (fun ls hl => ?_)
    refine lv_iconst (v := 0) hx hb dX8_alike_45 (by decide) ?_
    refine lv_istore (lv' := [(7, .int 0), (6, .int 0), (0, .ref (ad x0)), (3, .int x3), (4, .int x4), (5, .int x5)]) hx hb dX8_alike_46 hl (by decide) rfl (fun ls hl => ?_)
    exact wX8_alike_48 fu C hem k33 hk33 σ x0 x3 x4 x5 0 0 hf hB hS (lv_sub hl [2, 3, 4, 5, 1, 0] rfl)
set_option maxRecDepth 100000 in
set_option maxHeartbeats 4000000 in
theorem wX8_alike_33 (fu : Nat) (C : hs_Cx p s m args meth c X A yX8_alike cX8_alike 8 (some .int) wsX8_alike) (hem : ad hs_em = X.2.2.1.2.2.2)  {H : Heap} {locs : List Loc} {ls : Array Slot} (σ : hs_T) (x0 : Nat) (x3 : Int32) (x4 : Int32) (x5 : Int32) (hf : fX8_alike_33 fu  σ x0 x3 x4 x5 = some (r, τ)) (hB : hs_H X.1 X.2.1 ad A σ H) (hS : va_S A s.heap H locs) (hl : lv_has ls 8 [(0, .ref (ad x0)), (3, .int x3), (4, .int x4), (5, .int x5)]) : W p l e rmX8_alike s m args below meth c H locs 0 0 (MQ below (hs_Q0 hs_tvi X ad A r τ) args s 0 0 A) (F0 m 33 ls []) := by
  unfold fX8_alike_33 at hf
  exact hs_lp_i (P := fun a => ∀ (H : Heap) (locs : List Loc) (ls : Array Slot), hs_H X.1 X.2.1 ad A a.1 H → va_S A s.heap H locs → lv_has ls 8 [(0, .ref (ad a.2.1)), (3, .int a.2.2.1), (4, .int a.2.2.2.1), (5, .int a.2.2.2.2)] → W p l e rmX8_alike s m args below meth c H locs 0 0 (MQ below (hs_Q0 hs_tvi X ad A r τ) args s 0 0 A) (F0 m 33 ls [])) (fun k a hk hf H locs ls hB hS hl => wX8_alike_33b fu C hem  _ (fun σ x0 x3 x4 x5 H locs ls hf hB hS hl => hk (σ, x0, x3, x4, x5) hf H locs ls hB hS hl) a.1 a.2.1 a.2.2.1 a.2.2.2.1 a.2.2.2.2 hf hB hS hl) fu (σ, x0, x3, x4, x5) hf H locs ls hB hS hl
set_option maxRecDepth 100000 in
set_option maxHeartbeats 4000000 in
theorem wX8_alike_e (fu : Nat) (C : hs_Cx p s m args meth c X A yX8_alike cX8_alike 8 (some .int) wsX8_alike) (hem : ad hs_em = X.2.2.1.2.2.2) {H : Heap} {locs : List Loc} {ls : Array Slot} (σ : hs_T) (o : Nat) (a1 : Int32) (a2 : Int32) (hf : fX8_alike fu σ o a1 a2 = some (r, τ)) (hB : hs_H X.1 X.2.1 ad A σ H) (hS : va_S A s.heap H locs) (hl : lv_has ls 8 [(0, .ref (ad o)), (1, .int a1), (2, .int a2)]) : W p l e rmX8_alike s m args below meth c H locs 0 0 (MQ below (hs_Q0 hs_tvi X ad A r τ) args s 0 0 A) (F0 m 0 ls []) := by
  obtain ⟨hx, hb, hml, hr, hts, hown, hlk, hnm, hV, hA0, hA⟩ := id C
  have hown : s.vm.findClass RX8 = some m.cls := hown
  have hK := hV.1
  have hNw := hV.2.1
  unfold fX8_alike at hf
  refine lv_aload_n hx hb dX8_alike_0 rfl (lv_at hl 0 rfl) ?_
  refine lv_iload_n hx hb dX8_alike_1 rfl (lv_at hl 1 rfl) ?_
  refine lv_iload_n hx hb dX8_alike_2 rfl (lv_at hl 2 rfl) ?_
  obtain ⟨_, h3, hf⟩ := hs_bi hf
  obtain ⟨v4, σ2, h1, hf⟩ := hs_b2i hf
  refine hs_call0 (va_runV (As := [.int a1, .int a2]) (rest := []) ⟨hx, hb, hml, hown, hts⟩ (ctX8_isPlace l fu σ o a1 a2 X ad H.size _ _ h1) (cwV 2 hts gX8_alike_X8_isPlace rfl rfl rfl (by decide +kernel) ⟨Nat.le_of_ble_eq_true rfl, Nat.le_of_ble_eq_true rfl⟩) (hs_preV (hs_recv hK hB (hs_ck_i h3) (by decide) rfl) hV hB hS hA0 hA hem) rfl rfl hl.1 rfl (lv_room (Nat.le_of_ble_eq_true rfl)) dX8_alike_3 ⟨Nat.le_of_ble_eq_true rfl, Nat.le_of_ble_eq_true rfl⟩) hB hS hA rfl (fun H locs hB hS => ?_)
  refine lv_if_ne (tgt := 11) hx hb dX8_alike_6 (by decide) (fun h5 => ?_) (fun h5 => ?_)
  · have hf := hs_ff h5 hf
    refine lv_aload_n hx hb dX8_alike_11 rfl (lv_at hl 0 rfl) ?_
    obtain ⟨v7, h6, hf⟩ := hs_bi hf
    refine x_getI hx hb hts inX8_alike_X8 hown hK hB (by decide) rfl (k := 1) (by decide) rfl h6 (hts _ lkX8_alike_0) (fun _ h9 => h9) dX8_alike_12 ?_
    refine lv_if_ne (tgt := 21) hx hb dX8_alike_15 (by decide) (fun h8 => ?_) (fun h8 => ?_)
    · have hf := hs_ff h8 hf
      refine lv_iconst (v := 3) hx hb dX8_alike_21 (by decide) ?_
      refine lv_iload_n hx hb dX8_alike_22 rfl (lv_at hl 1 rfl) ?_
      refine lv_imul hx hb dX8_alike_23 ?_
      refine lv_iload_n hx hb dX8_alike_24 rfl (lv_at hl 2 rfl) ?_
      refine lv_iadd hx hb dX8_alike_25 ?_
      refine lv_istore_n (lv' := [(3, .int ((3 * a1) + a2)), (0, .ref (ad o)), (1, .int a1), (2, .int a2)]) hx hb dX8_alike_26 rfl hl (by decide) rfl (fun ls hl => ?_)
      refine lv_iconst (v := 0) hx hb dX8_alike_27 (by decide) ?_
      refine lv_istore (lv' := [(4, .int 0), (3, .int ((3 * a1) + a2)), (0, .ref (ad o)), (1, .int a1), (2, .int a2)]) hx hb dX8_alike_28 hl (by decide) rfl (fun ls hl => ?_)
      refine lv_iconst (v := 0) hx hb dX8_alike_30 (by decide) ?_
      refine lv_istore (lv' := [(5, .int 0), (4, .int 0), (3, .int ((3 * a1) + a2)), (0, .ref (ad o)), (1, .int a1), (2, .int a2)]) hx hb dX8_alike_31 hl (by decide) rfl (fun ls hl => ?_)
      exact wX8_alike_33 fu C hem σ2 o ((3 * a1) + a2) 0 0 hf hB hS (lv_sub hl [3, 2, 1, 0] rfl)
    · have hf := hs_tt h8 hf
      refine lv_bipush (v := (-3)) hx hb dX8_alike_18 (by decide) ?_
      obtain ⟨rfl, rfl⟩ := hs_ri hf
      exact hs_iret hx hb hr hlk hB hS dX8_alike_20
  · have hf := hs_tt h5 hf
    refine lv_iconst (v := (-1)) hx hb dX8_alike_9 (by decide) ?_
    obtain ⟨rfl, rfl⟩ := hs_ri hf
    exact hs_iret hx hb hr hlk hB hS dX8_alike_10
end SX8_alike
set_option maxRecDepth 100000 in
theorem ctX8_alike (l : Launch) (fu : Nat) (σ : hs_T) (o : Nat) (a1 : Int32) (a2 : Int32) : hs_C0 hs_tvi l yX8_alike wsX8_alike rmX8_alike (fun ad => [.ref (ad o), .int a1, .int a2]) σ (fX8_alike fu σ o a1 a2) := by
  intro X ad sz r τ hf
  refine hs_enter (cc := cX8_alike) (maxL := 8) (ret := (some .int)) (by decide) rfl (Nat.le_of_ble_eq_true rfl) ?_
  intro p e s m below meth c ls C hl hem hB hS hsz
  exact wX8_alike_e fu C hem σ o a1 a2 hf hB hS hl
/-! ServiceGameModel.count(I)I -/
abbrev rmX8_count : Room := { frames := 0, cells := 0, slots := 0, locals := 0 }
theorem inX8_count_X8 : ∀ w ∈ wsX80, w ∈ wsX8_count := fun _ h => List.mem_cons_of_mem _ (List.mem_append_right _ h)
theorem lkX8_count_0 : Cond.fieldLink RX8 104 "ServiceGameModel" "teams" "I" ∈ wsX8_count := by decide +kernel
theorem lkX8_count_1 : Cond.fieldLink RX8 118 "ServiceGameModel" "rounds" "I" ∈ wsX8_count := by decide +kernel
theorem lkX8_count_2 : Cond.fieldLink RX8 228 "ServiceGameModel" "hands" "I" ∈ wsX8_count := by decide +kernel
theorem lkX8_count_3 : Cond.fieldLink RX8 206 "ServiceGameModel" "lettersAll" "I" ∈ wsX8_count := by decide +kernel
theorem lkX8_count_4 : Cond.fieldLink RX8 123 "ServiceGameModel" "taped" "I" ∈ wsX8_count := by decide +kernel
theorem lkX8_count_5 : Cond.fieldLink RX8 195 "ServiceGameModel" "fuelAll" "I" ∈ wsX8_count := by decide +kernel
def fX8_count (fu : Nat) (σ : hs_T) (o : Nat) (a1 : Int32) : Option (Int32 × hs_T) :=
 if a1 = 0 then
 ((hs_gI σ 10 o 0).bind fun v3 =>
 some (v3, σ))
 else
 if a1 = 1 then
 ((hs_gI σ 10 o 1).bind fun v6 =>
 some (v6, σ))
 else
 if a1 = 2 then
 ((hs_gI σ 10 o 38).bind fun v9 =>
 some (v9, σ))
 else
 if a1 = 3 then
 ((hs_gI σ 10 o 30).bind fun v12 =>
 some (v12, σ))
 else
 if a1 = 4 then
 ((hs_gI σ 10 o 7).bind fun v15 =>
 some (v15, σ))
 else
 if a1 = 5 then
 ((hs_gI σ 10 o 21).bind fun v18 =>
 some (v18, σ))
 else
 (some ((-1), σ))
section SX8_count
variable {p : Program} {l : Launch} {e : Env} {s : State} {m : MethodId} {args : Array Value} {below : List Frame} {meth : Method} {c : Code} {X : hs_X} {ad : Nat → Nat} {A : Nat → Prop} {r : Int32} {τ : hs_T}
set_option maxRecDepth 100000 in
set_option maxHeartbeats 4000000 in
theorem wX8_count_e (fu : Nat) (C : hs_Cx p s m args meth c X A yX8_count cX8_count 2 (some .int) wsX8_count) (hem : ad hs_em = X.2.2.1.2.2.2) {H : Heap} {locs : List Loc} {ls : Array Slot} (σ : hs_T) (o : Nat) (a1 : Int32) (hf : fX8_count fu σ o a1 = some (r, τ)) (hB : hs_H X.1 X.2.1 ad A σ H) (hS : va_S A s.heap H locs) (hl : lv_has ls 2 [(0, .ref (ad o)), (1, .int a1)]) : W p l e rmX8_count s m args below meth c H locs 0 0 (MQ below (hs_Q0 hs_tvi X ad A r τ) args s 0 0 A) (F0 m 0 ls []) := by
  obtain ⟨hx, hb, hml, hr, hts, hown, hlk, hnm, hV, hA0, hA⟩ := id C
  have hown : s.vm.findClass RX8 = some m.cls := hown
  have hK := hV.1
  have hNw := hV.2.1
  unfold fX8_count at hf
  refine lv_iload_n hx hb dX8_count_0 rfl (lv_at hl 1 rfl) ?_
  by_cases h1 : a1 = 0
  · have hf := hs_tt h1 hf
    refine lv_tableIn (tgt := 40) hx hb dX8_count_1 (by rw [h1]; decide) (by rw [h1]; decide) (by rw [h1]; exact rfl) (by decide) ?_
    refine lv_aload_n hx hb dX8_count_40 rfl (lv_at hl 0 rfl) ?_
    obtain ⟨v3, h2, hf⟩ := hs_bi hf
    refine x_getI hx hb hts inX8_count_X8 hown hK hB (by decide) rfl (k := 0) (by decide) rfl h2 (hts _ lkX8_count_0) (fun _ h9 => h9) dX8_count_41 ?_
    obtain ⟨rfl, rfl⟩ := hs_ri hf
    exact hs_iret hx hb hr hlk hB hS dX8_count_44
  have hf := hs_ff h1 hf
  by_cases h4 : a1 = 1
  · have hf := hs_tt h4 hf
    refine lv_tableIn (tgt := 45) hx hb dX8_count_1 (by rw [h4]; decide) (by rw [h4]; decide) (by rw [h4]; exact rfl) (by decide) ?_
    refine lv_aload_n hx hb dX8_count_45 rfl (lv_at hl 0 rfl) ?_
    obtain ⟨v6, h5, hf⟩ := hs_bi hf
    refine x_getI hx hb hts inX8_count_X8 hown hK hB (by decide) rfl (k := 1) (by decide) rfl h5 (hts _ lkX8_count_1) (fun _ h9 => h9) dX8_count_46 ?_
    obtain ⟨rfl, rfl⟩ := hs_ri hf
    exact hs_iret hx hb hr hlk hB hS dX8_count_49
  have hf := hs_ff h4 hf
  by_cases h7 : a1 = 2
  · have hf := hs_tt h7 hf
    refine lv_tableIn (tgt := 50) hx hb dX8_count_1 (by rw [h7]; decide) (by rw [h7]; decide) (by rw [h7]; exact rfl) (by decide) ?_
    refine lv_aload_n hx hb dX8_count_50 rfl (lv_at hl 0 rfl) ?_
    obtain ⟨v9, h8, hf⟩ := hs_bi hf
    refine x_getI hx hb hts inX8_count_X8 hown hK hB (by decide) rfl (k := 38) (by decide) rfl h8 (hts _ lkX8_count_2) (fun _ h9 => h9) dX8_count_51 ?_
    obtain ⟨rfl, rfl⟩ := hs_ri hf
    exact hs_iret hx hb hr hlk hB hS dX8_count_54
  have hf := hs_ff h7 hf
  by_cases h10 : a1 = 3
  · have hf := hs_tt h10 hf
    refine lv_tableIn (tgt := 55) hx hb dX8_count_1 (by rw [h10]; decide) (by rw [h10]; decide) (by rw [h10]; exact rfl) (by decide) ?_
    refine lv_aload_n hx hb dX8_count_55 rfl (lv_at hl 0 rfl) ?_
    obtain ⟨v12, h11, hf⟩ := hs_bi hf
    refine x_getI hx hb hts inX8_count_X8 hown hK hB (by decide) rfl (k := 30) (by decide) rfl h11 (hts _ lkX8_count_3) (fun _ h9 => h9) dX8_count_56 ?_
    obtain ⟨rfl, rfl⟩ := hs_ri hf
    exact hs_iret hx hb hr hlk hB hS dX8_count_59
  have hf := hs_ff h10 hf
  by_cases h13 : a1 = 4
  · have hf := hs_tt h13 hf
    refine lv_tableIn (tgt := 60) hx hb dX8_count_1 (by rw [h13]; decide) (by rw [h13]; decide) (by rw [h13]; exact rfl) (by decide) ?_
    refine lv_aload_n hx hb dX8_count_60 rfl (lv_at hl 0 rfl) ?_
    obtain ⟨v15, h14, hf⟩ := hs_bi hf
    refine x_getI hx hb hts inX8_count_X8 hown hK hB (by decide) rfl (k := 7) (by decide) rfl h14 (hts _ lkX8_count_4) (fun _ h9 => h9) dX8_count_61 ?_
    obtain ⟨rfl, rfl⟩ := hs_ri hf
    exact hs_iret hx hb hr hlk hB hS dX8_count_64
  have hf := hs_ff h13 hf
  by_cases h16 : a1 = 5
  · have hf := hs_tt h16 hf
    refine lv_tableIn (tgt := 65) hx hb dX8_count_1 (by rw [h16]; decide) (by rw [h16]; decide) (by rw [h16]; exact rfl) (by decide) ?_
    refine lv_aload_n hx hb dX8_count_65 rfl (lv_at hl 0 rfl) ?_
    obtain ⟨v18, h17, hf⟩ := hs_bi hf
    refine x_getI hx hb hts inX8_count_X8 hown hK hB (by decide) rfl (k := 21) (by decide) rfl h17 (hts _ lkX8_count_5) (fun _ h9 => h9) dX8_count_66 ?_
    obtain ⟨rfl, rfl⟩ := hs_ri hf
    exact hs_iret hx hb hr hlk hB hS dX8_count_69
  have hf := hs_ff h16 hf
  refine lv_tableOut (tgt := 70) hx hb dX8_count_1 (by have g0 := lv_neT h1 (a := 0) (by decide); have g1 := lv_neT h4 (a := 1) (by decide); have g2 := lv_neT h7 (a := 2) (by decide); have g3 := lv_neT h10 (a := 3) (by decide); have g4 := lv_neT h13 (a := 4) (by decide); have g5 := lv_neT h16 (a := 5) (by decide); omega) (by decide) ?_
  refine lv_iconst (v := (-1)) hx hb dX8_count_70 (by decide) ?_
  obtain ⟨rfl, rfl⟩ := hs_ri hf
  exact hs_iret hx hb hr hlk hB hS dX8_count_71
end SX8_count
set_option maxRecDepth 100000 in
theorem ctX8_count (l : Launch) (fu : Nat) (σ : hs_T) (o : Nat) (a1 : Int32) : hs_C0 hs_tvi l yX8_count wsX8_count rmX8_count (fun ad => [.ref (ad o), .int a1]) σ (fX8_count fu σ o a1) := by
  intro X ad sz r τ hf
  refine hs_enter (cc := cX8_count) (maxL := 2) (ret := (some .int)) (by decide) rfl (Nat.le_of_ble_eq_true rfl) ?_
  intro p e s m below meth c ls C hl hem hB hS hsz
  exact wX8_count_e fu C hem σ o a1 hf hB hS hl
