/-! ServiceGameModel.pushes(I)V -/
abbrev rmX8_pushes : Room := { frames := 0, cells := 0, slots := 0, locals := 0 }
theorem inX8_pushes_X8 : ∀ w ∈ wsX80, w ∈ wsX8_pushes := fun _ h => List.mem_cons_of_mem _ (List.mem_append_right _ h)
theorem lkX8_pushes_0 : Cond.fieldLink RX8 50 "ServiceGameModel" "pile" "[I" ∈ wsX8_pushes := by decide +kernel
theorem lkX8_pushes_1 : Cond.fieldLink RX8 173 "ServiceGameModel" "high" "I" ∈ wsX8_pushes := by decide +kernel
def fX8_pushes (fu : Nat) (σ : hs_T) (o : Nat) (a1 : Int32) : Option (Unit × hs_T) :=
 (hs_gN σ 10 o 18).bind fun n2 =>
 (hs_gI σ 10 o 19).bind fun v4 =>
 (hs_st σ 11 n2 v4 a1).bind fun σ5 =>
 (hs_gI σ5 10 o 19).bind fun v8 =>
 (hs_pI σ5 10 o 19 (v8 + 1)).bind fun σ10 =>
 some ((), σ10)
section SX8_pushes
variable {p : Program} {l : Launch} {e : Env} {s : State} {m : MethodId} {args : Array Value} {below : List Frame} {meth : Method} {c : Code} {X : hs_X} {ad : Nat → Nat} {A : Nat → Prop} {r : Unit} {τ : hs_T}
set_option maxRecDepth 100000 in
set_option maxHeartbeats 4000000 in
theorem wX8_pushes_e (fu : Nat) (C : hs_Cx p s m args meth c X A yX8_pushes cX8_pushes 2 none wsX8_pushes) (hem : ad hs_em = X.2.2.1.2.2.2) {H : Heap} {locs : List Loc} {ls : Array Slot} (σ : hs_T) (o : Nat) (a1 : Int32) (hf : fX8_pushes fu σ o a1 = some (r, τ)) (hB : hs_H X.1 X.2.1 ad A σ H) (hS : va_S A s.heap H locs) (hl : lv_has ls 2 [(0, .ref (ad o)), (1, .int a1)]) : W p l e rmX8_pushes s m args below meth c H locs 0 0 (MQ below (hs_Q0 hs_tvv X ad A r τ) args s 0 0 A) (F0 m 0 ls []) := by
  obtain ⟨hx, hb, hml, hr, hts, hown, hlk, hnm, hV, hA0, hA⟩ := id C
  have hown : s.vm.findClass RX8 = some m.cls := hown
  have hK := hV.1
  have hNw := hV.2.1
  unfold fX8_pushes at hf
  refine lv_aload_n hx hb dX8_pushes_0 rfl (lv_at hl 0 rfl) ?_
  obtain ⟨n2, h1, hf⟩ := hs_bi hf
  refine x_getN hx hb hts inX8_pushes_X8 hown hK hB (by decide) rfl (k := 18) (by decide) rfl h1 (hts _ lkX8_pushes_0) (fun _ h9 => h9) dX8_pushes_1 ?_
  refine lv_aload_n hx hb dX8_pushes_4 rfl (lv_at hl 0 rfl) ?_
  obtain ⟨v4, h3, hf⟩ := hs_bi hf
  refine x_getI hx hb hts inX8_pushes_X8 hown hK hB (by decide) rfl (k := 19) (by decide) rfl h3 (hts _ lkX8_pushes_1) (fun _ h9 => h9) dX8_pushes_5 ?_
  refine lv_iload_n hx hb dX8_pushes_8 rfl (lv_at hl 1 rfl) ?_
  obtain ⟨σ5, h6, hf⟩ := hs_bi hf
  refine x_iast hx hb hK hB hS h6 dX8_pushes_9 (fun H locs hB hS => ?_)
  refine lv_aload_n hx hb dX8_pushes_10 rfl (lv_at hl 0 rfl) ?_
  refine lv_dup hx hb dX8_pushes_11 rfl ?_
  obtain ⟨v8, h7, hf⟩ := hs_bi hf
  refine x_getI hx hb hts inX8_pushes_X8 hown hK hB (by decide) rfl (k := 19) (by decide) rfl h7 (hts _ lkX8_pushes_1) (fun _ h9 => h9) dX8_pushes_12 ?_
  refine lv_iconst (v := 1) hx hb dX8_pushes_15 (by decide) ?_
  refine lv_iadd hx hb dX8_pushes_16 ?_
  obtain ⟨σ10, h9, hf⟩ := hs_bi hf
  refine x_putI hx hb hts inX8_pushes_X8 tyX8_ok nmX8 hown hK hB hS (by decide) rfl (k := 19) (by decide) rfl h9 (hts _ lkX8_pushes_1) (fun _ h9 => h9) rfl (by decide +kernel) dX8_pushes_17 (fun H locs hB hS => ?_)
  obtain ⟨rfl, rfl⟩ := hs_ri hf
  exact hs_vret hx hb hr hlk hB hS dX8_pushes_20
end SX8_pushes
set_option maxRecDepth 100000 in
theorem ctX8_pushes (l : Launch) (fu : Nat) (σ : hs_T) (o : Nat) (a1 : Int32) : hs_C0 hs_tvv l yX8_pushes wsX8_pushes rmX8_pushes (fun ad => [.ref (ad o), .int a1]) σ (fX8_pushes fu σ o a1) := by
  intro X ad sz r τ hf
  refine hs_enter (cc := cX8_pushes) (maxL := 2) (ret := none) (by decide) rfl (Nat.le_of_ble_eq_true rfl) ?_
  intro p e s m below meth c ls C hl hem hB hS hsz
  exact wX8_pushes_e fu C hem σ o a1 hf hB hS hl
/-! ServiceGameModel.of(III)I -/
abbrev rmX8_of : Room := { frames := 0, cells := 0, slots := 0, locals := 0 }
theorem lkX8_of_0 : Cond.constantLong RX8 176 (10000) ∈ wsX8_of := by decide +kernel
def fX8_of (fu : Nat) (σ : hs_T) (a1 : Int32) (a2 : Int32) (a3 : Int32) : Option (Int32 × hs_T) :=
 if a3 = 42 then
 (some (((a1.toInt64 * a2.toInt64) - (a1.toInt64 * a2.toInt64) / 10000 * 10000).toInt32, σ))
 else
 if a3 = 43 then
 (some (((a1 + a2) - (a1 + a2) / 10000 * 10000), σ))
 else
 if a3 = 45 then
 (some ((((a1 - a2) + 10000) - ((a1 - a2) + 10000) / 10000 * 10000), σ))
 else
 if a3 = 61 then
 (if a1 = a2 then
 (some (1, σ))
 else
 (some (0, σ)))
 else
 (if a2 ≤ a1 then
 (some (0, σ))
 else
 (some (1, σ)))
section SX8_of
variable {p : Program} {l : Launch} {e : Env} {s : State} {m : MethodId} {args : Array Value} {below : List Frame} {meth : Method} {c : Code} {X : hs_X} {ad : Nat → Nat} {A : Nat → Prop} {r : Int32} {τ : hs_T}
set_option maxRecDepth 100000 in
set_option maxHeartbeats 4000000 in
theorem wX8_of_e (fu : Nat) (C : hs_Cx p s m args meth c X A yX8_of cX8_of 3 (some .int) wsX8_of) (hem : ad hs_em = X.2.2.1.2.2.2) {H : Heap} {locs : List Loc} {ls : Array Slot} (σ : hs_T) (a1 : Int32) (a2 : Int32) (a3 : Int32) (hf : fX8_of fu σ a1 a2 a3 = some (r, τ)) (hB : hs_H X.1 X.2.1 ad A σ H) (hS : va_S A s.heap H locs) (hl : lv_has ls 3 [(0, .int a1), (1, .int a2), (2, .int a3)]) : W p l e rmX8_of s m args below meth c H locs 0 0 (MQ below (hs_Q0 hs_tvi X ad A r τ) args s 0 0 A) (F0 m 0 ls []) := by
  obtain ⟨hx, hb, hml, hr, hts, hown, hlk, hnm, hV, hA0, hA⟩ := id C
  have hown : s.vm.findClass RX8 = some m.cls := hown
  have hK := hV.1
  have hNw := hV.2.1
  unfold fX8_of at hf
  refine lv_iload_n hx hb dX8_of_0 rfl (lv_at hl 2 rfl) ?_
  by_cases h1 : a3 = 42
  · have hf := hs_tt h1 hf
    refine lv_lookup (tgt := 64) (off := 63) hx hb dX8_of_1 (by decide) (by rw [h1]; decide) (by decide) ?_
    refine lv_iload_n hx hb dX8_of_64 rfl (lv_at hl 0 rfl) ?_
    refine lv_i2l hx hb dX8_of_65 rfl ?_
    refine lv_iload_n hx hb dX8_of_66 rfl (lv_at hl 1 rfl) ?_
    refine lv_i2l hx hb dX8_of_67 rfl ?_
    refine lv_lmul hx hb dX8_of_68 ?_
    refine lv_ldc2 hx hb hown (hts _ lkX8_of_0) dX8_of_69 ?_
    refine lv_lrem hx hb dX8_of_72 (by decide) ?_
    refine lv_l2i hx hb dX8_of_73 rfl ?_
    obtain ⟨rfl, rfl⟩ := hs_ri hf
    exact hs_iret hx hb hr hlk hB hS dX8_of_74
  have hf := hs_ff h1 hf
  by_cases h2 : a3 = 43
  · have hf := hs_tt h2 hf
    refine lv_lookup (tgt := 44) (off := 43) hx hb dX8_of_1 (by decide) (by rw [h2]; decide) (by decide) ?_
    refine lv_iload_n hx hb dX8_of_44 rfl (lv_at hl 0 rfl) ?_
    refine lv_iload_n hx hb dX8_of_45 rfl (lv_at hl 1 rfl) ?_
    refine lv_iadd hx hb dX8_of_46 ?_
    refine lv_sipush (v := 10000) hx hb dX8_of_47 (by decide) ?_
    refine lv_irem hx hb dX8_of_50 (by decide) ?_
    obtain ⟨rfl, rfl⟩ := hs_ri hf
    exact hs_iret hx hb hr hlk hB hS dX8_of_51
  have hf := hs_ff h2 hf
  by_cases h3 : a3 = 45
  · have hf := hs_tt h3 hf
    refine lv_lookup (tgt := 52) (off := 51) hx hb dX8_of_1 (by decide) (by rw [h3]; decide) (by decide) ?_
    refine lv_iload_n hx hb dX8_of_52 rfl (lv_at hl 0 rfl) ?_
    refine lv_iload_n hx hb dX8_of_53 rfl (lv_at hl 1 rfl) ?_
    refine lv_isub hx hb dX8_of_54 ?_
    refine lv_sipush (v := 10000) hx hb dX8_of_55 (by decide) ?_
    refine lv_iadd hx hb dX8_of_58 ?_
    refine lv_sipush (v := 10000) hx hb dX8_of_59 (by decide) ?_
    refine lv_irem hx hb dX8_of_62 (by decide) ?_
    obtain ⟨rfl, rfl⟩ := hs_ri hf
    exact hs_iret hx hb hr hlk hB hS dX8_of_63
  have hf := hs_ff h3 hf
  by_cases h4 : a3 = 61
  · have hf := hs_tt h4 hf
    refine lv_lookup (tgt := 75) (off := 74) hx hb dX8_of_1 (by decide) (by rw [h4]; decide) (by decide) ?_
    refine lv_iload_n hx hb dX8_of_75 rfl (lv_at hl 0 rfl) ?_
    refine lv_iload_n hx hb dX8_of_76 rfl (lv_at hl 1 rfl) ?_
    refine lv_icmp_ne (tgt := 84) hx hb dX8_of_77 (by decide) (fun h5 => ?_) (fun h5 => ?_)
    · have hf := hs_ff h5 hf
      refine lv_iconst (v := 0) hx hb dX8_of_84 (by decide) ?_
      obtain ⟨rfl, rfl⟩ := hs_ri hf
      exact hs_iret hx hb hr hlk hB hS dX8_of_85
    · have hf := hs_tt h5 hf
      refine lv_iconst (v := 1) hx hb dX8_of_80 (by decide) ?_
      refine lv_goto (tgt := 85) hx hb dX8_of_81 (by decide) ?_
      obtain ⟨rfl, rfl⟩ := hs_ri hf
      exact hs_iret hx hb hr hlk hB hS dX8_of_85
  have hf := hs_ff h4 hf
  refine lv_lookup (tgt := 86) (off := 85) hx hb dX8_of_1 (by decide) (by rw [lv_osw h1 (a := 42) (by decide), lv_osw h2 (a := 43) (by decide), lv_osw h3 (a := 45) (by decide), lv_osw h4 (a := 61) (by decide)]; rfl) (by decide) ?_
  refine lv_iload_n hx hb dX8_of_86 rfl (lv_at hl 0 rfl) ?_
  refine lv_iload_n hx hb dX8_of_87 rfl (lv_at hl 1 rfl) ?_
  refine lv_icmp_ge (tgt := 95) hx hb dX8_of_88 (by decide) (fun h6 => ?_) (fun h6 => ?_)
  · have hf := hs_tt h6 hf
    refine lv_iconst (v := 0) hx hb dX8_of_95 (by decide) ?_
    obtain ⟨rfl, rfl⟩ := hs_ri hf
    exact hs_iret hx hb hr hlk hB hS dX8_of_96
  · have hf := hs_ff h6 hf
    refine lv_iconst (v := 1) hx hb dX8_of_91 (by decide) ?_
    refine lv_goto (tgt := 96) hx hb dX8_of_92 (by decide) ?_
    obtain ⟨rfl, rfl⟩ := hs_ri hf
    exact hs_iret hx hb hr hlk hB hS dX8_of_96
end SX8_of
set_option maxRecDepth 100000 in
theorem ctX8_of (l : Launch) (fu : Nat) (σ : hs_T) (a1 : Int32) (a2 : Int32) (a3 : Int32) : hs_C0 hs_tvi l yX8_of wsX8_of rmX8_of (fun ad => [.int a1, .int a2, .int a3]) σ (fX8_of fu σ a1 a2 a3) := by
  intro X ad sz r τ hf
  refine hs_enter (cc := cX8_of) (maxL := 3) (ret := (some .int)) (by decide) rfl (Nat.le_of_ble_eq_true rfl) ?_
  intro p e s m below meth c ls C hl hem hB hS hsz
  exact wX8_of_e fu C hem σ a1 a2 a3 hf hB hS hl
/-! ServiceGameModel.needs(I)I -/
abbrev rmX8_needs : Room := { frames := 0, cells := 0, slots := 0, locals := 0 }
def fX8_needs (fu : Nat) (σ : hs_T) (a1 : Int32) : Option (Int32 × hs_T) :=
 if a1 = 115 then
 (some (1, σ))
 else
 (if a1 = 106 then
 (some (1, σ))
 else
 (if a1 = 111 then
 (some (1, σ))
 else
 (if a1 = 43 then
 (some (2, σ))
 else
 (if a1 = 45 then
 (some (2, σ))
 else
 (if a1 = 42 then
 (some (2, σ))
 else
 (if a1 = 61 then
 (some (2, σ))
 else
 (if a1 = 60 then
 (some (2, σ))
 else
 (some (0, σ)))))))))
section SX8_needs
variable {p : Program} {l : Launch} {e : Env} {s : State} {m : MethodId} {args : Array Value} {below : List Frame} {meth : Method} {c : Code} {X : hs_X} {ad : Nat → Nat} {A : Nat → Prop} {r : Int32} {τ : hs_T}
set_option maxRecDepth 100000 in
set_option maxHeartbeats 4000000 in
theorem wX8_needs_e (fu : Nat) (C : hs_Cx p s m args meth c X A yX8_needs cX8_needs 1 (some .int) wsX8_needs) (hem : ad hs_em = X.2.2.1.2.2.2) {H : Heap} {locs : List Loc} {ls : Array Slot} (σ : hs_T) (a1 : Int32) (hf : fX8_needs fu σ a1 = some (r, τ)) (hB : hs_H X.1 X.2.1 ad A σ H) (hS : va_S A s.heap H locs) (hl : lv_has ls 1 [(0, .int a1)]) : W p l e rmX8_needs s m args below meth c H locs 0 0 (MQ below (hs_Q0 hs_tvi X ad A r τ) args s 0 0 A) (F0 m 0 ls []) := by
  obtain ⟨hx, hb, hml, hr, hts, hown, hlk, hnm, hV, hA0, hA⟩ := id C
  have hown : s.vm.findClass RX8 = some m.cls := hown
  have hK := hV.1
  have hNw := hV.2.1
  unfold fX8_needs at hf
  refine lv_iload_n hx hb dX8_needs_0 rfl (lv_at hl 0 rfl) ?_
  refine lv_bipush (v := 115) hx hb dX8_needs_1 (by decide) ?_
  refine lv_icmp_eq (tgt := 18) hx hb dX8_needs_3 (by decide) (fun h1 => ?_) (fun h1 => ?_)
  · have hf := hs_tt h1 hf
    refine lv_iconst (v := 1) hx hb dX8_needs_18 (by decide) ?_
    refine lv_goto (tgt := 57) hx hb dX8_needs_19 (by decide) ?_
    obtain ⟨rfl, rfl⟩ := hs_ri hf
    exact hs_iret hx hb hr hlk hB hS dX8_needs_57
  · have hf := hs_ff h1 hf
    refine lv_iload_n hx hb dX8_needs_6 rfl (lv_at hl 0 rfl) ?_
    refine lv_bipush (v := 106) hx hb dX8_needs_7 (by decide) ?_
    refine lv_icmp_eq (tgt := 18) hx hb dX8_needs_9 (by decide) (fun h2 => ?_) (fun h2 => ?_)
    · have hf := hs_tt h2 hf
      refine lv_iconst (v := 1) hx hb dX8_needs_18 (by decide) ?_
      refine lv_goto (tgt := 57) hx hb dX8_needs_19 (by decide) ?_
      obtain ⟨rfl, rfl⟩ := hs_ri hf
      exact hs_iret hx hb hr hlk hB hS dX8_needs_57
    · have hf := hs_ff h2 hf
      refine lv_iload_n hx hb dX8_needs_12 rfl (lv_at hl 0 rfl) ?_
      refine lv_bipush (v := 111) hx hb dX8_needs_13 (by decide) ?_
      refine lv_icmp_ne (tgt := 22) hx hb dX8_needs_15 (by decide) (fun h3 => ?_) (fun h3 => ?_)
      · have hf := hs_ff h3 hf
        refine lv_iload_n hx hb dX8_needs_22 rfl (lv_at hl 0 rfl) ?_
        refine lv_bipush (v := 43) hx hb dX8_needs_23 (by decide) ?_
        refine lv_icmp_eq (tgt := 52) hx hb dX8_needs_25 (by decide) (fun h4 => ?_) (fun h4 => ?_)
        · have hf := hs_tt h4 hf
          refine lv_iconst (v := 2) hx hb dX8_needs_52 (by decide) ?_
          refine lv_goto (tgt := 57) hx hb dX8_needs_53 (by decide) ?_
          obtain ⟨rfl, rfl⟩ := hs_ri hf
          exact hs_iret hx hb hr hlk hB hS dX8_needs_57
        · have hf := hs_ff h4 hf
          refine lv_iload_n hx hb dX8_needs_28 rfl (lv_at hl 0 rfl) ?_
          refine lv_bipush (v := 45) hx hb dX8_needs_29 (by decide) ?_
          refine lv_icmp_eq (tgt := 52) hx hb dX8_needs_31 (by decide) (fun h5 => ?_) (fun h5 => ?_)
          · have hf := hs_tt h5 hf
            refine lv_iconst (v := 2) hx hb dX8_needs_52 (by decide) ?_
            refine lv_goto (tgt := 57) hx hb dX8_needs_53 (by decide) ?_
            obtain ⟨rfl, rfl⟩ := hs_ri hf
            exact hs_iret hx hb hr hlk hB hS dX8_needs_57
          · have hf := hs_ff h5 hf
            refine lv_iload_n hx hb dX8_needs_34 rfl (lv_at hl 0 rfl) ?_
            refine lv_bipush (v := 42) hx hb dX8_needs_35 (by decide) ?_
            refine lv_icmp_eq (tgt := 52) hx hb dX8_needs_37 (by decide) (fun h6 => ?_) (fun h6 => ?_)
            · have hf := hs_tt h6 hf
              refine lv_iconst (v := 2) hx hb dX8_needs_52 (by decide) ?_
              refine lv_goto (tgt := 57) hx hb dX8_needs_53 (by decide) ?_
              obtain ⟨rfl, rfl⟩ := hs_ri hf
              exact hs_iret hx hb hr hlk hB hS dX8_needs_57
            · have hf := hs_ff h6 hf
              refine lv_iload_n hx hb dX8_needs_40 rfl (lv_at hl 0 rfl) ?_
              refine lv_bipush (v := 61) hx hb dX8_needs_41 (by decide) ?_
              refine lv_icmp_eq (tgt := 52) hx hb dX8_needs_43 (by decide) (fun h7 => ?_) (fun h7 => ?_)
              · have hf := hs_tt h7 hf
                refine lv_iconst (v := 2) hx hb dX8_needs_52 (by decide) ?_
                refine lv_goto (tgt := 57) hx hb dX8_needs_53 (by decide) ?_
                obtain ⟨rfl, rfl⟩ := hs_ri hf
                exact hs_iret hx hb hr hlk hB hS dX8_needs_57
              · have hf := hs_ff h7 hf
                refine lv_iload_n hx hb dX8_needs_46 rfl (lv_at hl 0 rfl) ?_
                refine lv_bipush (v := 60) hx hb dX8_needs_47 (by decide) ?_
                refine lv_icmp_ne (tgt := 56) hx hb dX8_needs_49 (by decide) (fun h8 => ?_) (fun h8 => ?_)
                · have hf := hs_ff h8 hf
                  refine lv_iconst (v := 0) hx hb dX8_needs_56 (by decide) ?_
                  obtain ⟨rfl, rfl⟩ := hs_ri hf
                  exact hs_iret hx hb hr hlk hB hS dX8_needs_57
                · have hf := hs_tt h8 hf
                  refine lv_iconst (v := 2) hx hb dX8_needs_52 (by decide) ?_
                  refine lv_goto (tgt := 57) hx hb dX8_needs_53 (by decide) ?_
                  obtain ⟨rfl, rfl⟩ := hs_ri hf
                  exact hs_iret hx hb hr hlk hB hS dX8_needs_57
      · have hf := hs_tt h3 hf
        refine lv_iconst (v := 1) hx hb dX8_needs_18 (by decide) ?_
        refine lv_goto (tgt := 57) hx hb dX8_needs_19 (by decide) ?_
        obtain ⟨rfl, rfl⟩ := hs_ri hf
        exact hs_iret hx hb hr hlk hB hS dX8_needs_57
end SX8_needs
set_option maxRecDepth 100000 in
theorem ctX8_needs (l : Launch) (fu : Nat) (σ : hs_T) (a1 : Int32) : hs_C0 hs_tvi l yX8_needs wsX8_needs rmX8_needs (fun ad => [.int a1]) σ (fX8_needs fu σ a1) := by
  intro X ad sz r τ hf
  refine hs_enter (cc := cX8_needs) (maxL := 1) (ret := (some .int)) (by decide) rfl (Nat.le_of_ble_eq_true rfl) ?_
  intro p e s m below meth c ls C hl hem hB hS hsz
  exact wX8_needs_e fu C hem σ a1 hf hB hS hl
/-! ServiceGameModel.isPush(I)Z -/
abbrev rmX8_isPush : Room := { frames := 0, cells := 0, slots := 0, locals := 0 }
def fX8_isPush (fu : Nat) (σ : hs_T) (a1 : Int32) : Option (Int32 × hs_T) :=
 if a1 = 112 then
 (some (1, σ))
 else
 (if a1 = 97 then
 (some (1, σ))
 else
 (if a1 = 98 then
 (some (1, σ))
 else
 (if a1 = 108 then
 (some (1, σ))
 else
 (some (0, σ)))))
section SX8_isPush
variable {p : Program} {l : Launch} {e : Env} {s : State} {m : MethodId} {args : Array Value} {below : List Frame} {meth : Method} {c : Code} {X : hs_X} {ad : Nat → Nat} {A : Nat → Prop} {r : Int32} {τ : hs_T}
set_option maxRecDepth 100000 in
set_option maxHeartbeats 4000000 in
theorem wX8_isPush_e (fu : Nat) (C : hs_Cx p s m args meth c X A yX8_isPush cX8_isPush 1 (some .boolean) wsX8_isPush) (hem : ad hs_em = X.2.2.1.2.2.2) {H : Heap} {locs : List Loc} {ls : Array Slot} (σ : hs_T) (a1 : Int32) (hf : fX8_isPush fu σ a1 = some (r, τ)) (hB : hs_H X.1 X.2.1 ad A σ H) (hS : va_S A s.heap H locs) (hl : lv_has ls 1 [(0, .int a1)]) : W p l e rmX8_isPush s m args below meth c H locs 0 0 (MQ below (hs_Q0 hs_tvi X ad A r τ) args s 0 0 A) (F0 m 0 ls []) := by
  obtain ⟨hx, hb, hml, hr, hts, hown, hlk, hnm, hV, hA0, hA⟩ := id C
  have hown : s.vm.findClass RX8 = some m.cls := hown
  have hK := hV.1
  have hNw := hV.2.1
  unfold fX8_isPush at hf
  refine lv_iload_n hx hb dX8_isPush_0 rfl (lv_at hl 0 rfl) ?_
  refine lv_bipush (v := 112) hx hb dX8_isPush_1 (by decide) ?_
  refine lv_icmp_eq (tgt := 24) hx hb dX8_isPush_3 (by decide) (fun h1 => ?_) (fun h1 => ?_)
  · have hf := hs_tt h1 hf
    refine lv_iconst (v := 1) hx hb dX8_isPush_24 (by decide) ?_
    refine lv_goto (tgt := 29) hx hb dX8_isPush_25 (by decide) ?_
    obtain ⟨rfl, rfl⟩ := hs_ri hf
    exact hs_zret hx hb hr hlk (by decide) hB hS dX8_isPush_29
  · have hf := hs_ff h1 hf
    refine lv_iload_n hx hb dX8_isPush_6 rfl (lv_at hl 0 rfl) ?_
    refine lv_bipush (v := 97) hx hb dX8_isPush_7 (by decide) ?_
    refine lv_icmp_eq (tgt := 24) hx hb dX8_isPush_9 (by decide) (fun h2 => ?_) (fun h2 => ?_)
    · have hf := hs_tt h2 hf
      refine lv_iconst (v := 1) hx hb dX8_isPush_24 (by decide) ?_
      refine lv_goto (tgt := 29) hx hb dX8_isPush_25 (by decide) ?_
      obtain ⟨rfl, rfl⟩ := hs_ri hf
      exact hs_zret hx hb hr hlk (by decide) hB hS dX8_isPush_29
    · have hf := hs_ff h2 hf
      refine lv_iload_n hx hb dX8_isPush_12 rfl (lv_at hl 0 rfl) ?_
      refine lv_bipush (v := 98) hx hb dX8_isPush_13 (by decide) ?_
      refine lv_icmp_eq (tgt := 24) hx hb dX8_isPush_15 (by decide) (fun h3 => ?_) (fun h3 => ?_)
      · have hf := hs_tt h3 hf
        refine lv_iconst (v := 1) hx hb dX8_isPush_24 (by decide) ?_
        refine lv_goto (tgt := 29) hx hb dX8_isPush_25 (by decide) ?_
        obtain ⟨rfl, rfl⟩ := hs_ri hf
        exact hs_zret hx hb hr hlk (by decide) hB hS dX8_isPush_29
      · have hf := hs_ff h3 hf
        refine lv_iload_n hx hb dX8_isPush_18 rfl (lv_at hl 0 rfl) ?_
        refine lv_bipush (v := 108) hx hb dX8_isPush_19 (by decide) ?_
        refine lv_icmp_ne (tgt := 28) hx hb dX8_isPush_21 (by decide) (fun h4 => ?_) (fun h4 => ?_)
        · have hf := hs_ff h4 hf
          refine lv_iconst (v := 0) hx hb dX8_isPush_28 (by decide) ?_
          obtain ⟨rfl, rfl⟩ := hs_ri hf
          exact hs_zret hx hb hr hlk (by decide) hB hS dX8_isPush_29
        · have hf := hs_tt h4 hf
          refine lv_iconst (v := 1) hx hb dX8_isPush_24 (by decide) ?_
          refine lv_goto (tgt := 29) hx hb dX8_isPush_25 (by decide) ?_
          obtain ⟨rfl, rfl⟩ := hs_ri hf
          exact hs_zret hx hb hr hlk (by decide) hB hS dX8_isPush_29
end SX8_isPush
set_option maxRecDepth 100000 in
theorem ctX8_isPush (l : Launch) (fu : Nat) (σ : hs_T) (a1 : Int32) : hs_C0 hs_tvi l yX8_isPush wsX8_isPush rmX8_isPush (fun ad => [.int a1]) σ (fX8_isPush fu σ a1) := by
  intro X ad sz r τ hf
  refine hs_enter (cc := cX8_isPush) (maxL := 1) (ret := (some .boolean)) (by decide) rfl (Nat.le_of_ble_eq_true rfl) ?_
  intro p e s m below meth c ls C hl hem hB hS hsz
  exact wX8_isPush_e fu C hem σ a1 hf hB hS hl
/-! ServiceGameModel.does(IIIII)V -/
abbrev rmX8_does : Room := { frames := 1, cells := 0, slots := 0, locals := 22 }
theorem inX8_does_X8 : ∀ w ∈ wsX80, w ∈ wsX8_does := fun _ h => List.mem_cons_of_mem _ (List.mem_append_right _ h)
theorem lkX8_does_0 : Cond.fieldLink RX8 178 "ServiceGameModel" "next" "I" ∈ wsX8_does := by decide +kernel
theorem lkX8_does_1 : Cond.fieldLink RX8 173 "ServiceGameModel" "high" "I" ∈ wsX8_does := by decide +kernel
theorem lkX8_does_2 : Cond.fieldLink RX8 50 "ServiceGameModel" "pile" "[I" ∈ wsX8_does := by decide +kernel
theorem lkX8_does_3 : Cond.fieldLink RX8 32 "ServiceGameModel" "cell" "[I" ∈ wsX8_does := by decide +kernel
def fX8_does_186 (fu : Nat)  (σ : hs_T) (x0 : Nat) (x2 : Int32) (x3 : Int32) : Option (Unit × hs_T) :=
 if x2 = 103 then
 ((hs_pI σ 10 x0 20 x3).bind fun σ17 =>
 some ((), σ17))
 else
 (some ((), σ))
def fX8_does_153 (fu : Nat)  (σ : hs_T) (x0 : Nat) (x2 : Int32) (x3 : Int32) : Option (Unit × hs_T) :=
 if x2 = 106 then
 ((hs_gI σ 10 x0 19).bind fun v19 =>
 (hs_pI σ 10 x0 19 (v19 - 1)).bind fun σ21 =>
 (hs_gN σ21 10 x0 18).bind fun n23 =>
 (hs_gI σ21 10 x0 19).bind fun v25 =>
 (hs_ld σ21 11 n23 v25).bind fun v26 =>
 if v26 = 0 then
 ((hs_pI σ21 10 x0 20 x3).bind fun σ30 =>
 fX8_does_186 fu σ30 x0 x2 x3)
 else
 (fX8_does_186 fu σ21 x0 x2 x3))
 else
 (fX8_does_186 fu σ x0 x2 x3)
def fX8_does_100 (fu : Nat)  (σ : hs_T) (x0 : Nat) (x2 : Int32) (x3 : Int32) : Option (Unit × hs_T) :=
 hs_b2 (fX8_needs fu σ x2) fun v12 σ11 =>
 if v12 = 2 then
 ((hs_gI σ11 10 x0 19).bind fun v32 =>
 (hs_pI σ11 10 x0 19 (v32 - 1)).bind fun σ34 =>
 (hs_gN σ34 10 x0 18).bind fun n36 =>
 (hs_gI σ34 10 x0 19).bind fun v38 =>
 (hs_gN σ34 10 x0 18).bind fun n40 =>
 (hs_gI σ34 10 x0 19).bind fun v42 =>
 (hs_ld σ34 11 n40 (v42 - 1)).bind fun v43 =>
 (hs_gN σ34 10 x0 18).bind fun n46 =>
 (hs_gI σ34 10 x0 19).bind fun v48 =>
 (hs_ld σ34 11 n46 v48).bind fun v49 =>
 hs_b2 (fX8_of fu σ34 v43 v49 x2) fun v53 σ52 =>
 (hs_st σ52 11 n36 (v38 - 1) v53).bind fun σ54 =>
 fX8_does_153 fu σ54 x0 x2 x3)
 else
 (fX8_does_153 fu σ11 x0 x2 x3)
def fX8_does_64 (fu : Nat)  (σ : hs_T) (x0 : Nat) (x1 : Int32) (x2 : Int32) (x3 : Int32) : Option (Unit × hs_T) :=
 if x2 = 115 then
 ((hs_gI σ 10 x0 19).bind fun v57 =>
 (hs_pI σ 10 x0 19 (v57 - 1)).bind fun σ59 =>
 (hs_gN σ59 10 x0 12).bind fun n61 =>
 (hs_gN σ59 10 x0 18).bind fun n63 =>
 (hs_gI σ59 10 x0 19).bind fun v65 =>
 (hs_ld σ59 11 n63 v65).bind fun v66 =>
 (hs_st σ59 11 n61 ((8 * x1) + x3) v66).bind fun σ68 =>
 fX8_does_100 fu σ68 x0 x2 x3)
 else
 (fX8_does_100 fu σ x0 x2 x3)
def fX8_does_61 (fu : Nat)  (σ : hs_T) (x0 : Nat) (x1 : Int32) (x2 : Int32) (x3 : Int32) (y0 : Int32) (y1 : Nat) : Option (Unit × hs_T) :=
 (hs_ck σ 10 y1).bind fun _ =>
 hs_b2 (fX8_pushes fu σ y1 y0) fun _ σ78 =>
 fX8_does_64 fu σ78 x0 x1 x2 x3
def fX8_does (fu : Nat) (σ : hs_T) (o : Nat) (a1 : Int32) (a2 : Int32) (a3 : Int32) (a4 : Int32) (a5 : Int32) : Option (Unit × hs_T) :=
 (hs_gI σ 10 o 20).bind fun v2 =>
 (hs_pI σ 10 o 20 (v2 + 1)).bind fun σ4 =>
 hs_b2 (fX8_isPush fu σ4 a2) fun v7 σ6 =>
 if v7 = 0 then
 (fX8_does_64 fu σ6 o a1 a2 a3)
 else
 (if a2 = 112 then
 (fX8_does_61 fu σ6 o a1 a2 a3 a3 o)
 else
 (if a2 = 97 then
 (fX8_does_61 fu σ6 o a1 a2 a3 a4 o)
 else
 (if a2 = 98 then
 (fX8_does_61 fu σ6 o a1 a2 a3 a5 o)
 else
 ((hs_gN σ6 10 o 12).bind fun n74 =>
 (hs_ld σ6 11 n74 ((8 * a1) + a3)).bind fun v75 =>
 fX8_does_61 fu σ6 o a1 a2 a3 v75 o))))
section SX8_does
variable {p : Program} {l : Launch} {e : Env} {s : State} {m : MethodId} {args : Array Value} {below : List Frame} {meth : Method} {c : Code} {X : hs_X} {ad : Nat → Nat} {A : Nat → Prop} {r : Unit} {τ : hs_T}
set_option maxRecDepth 100000 in
set_option maxHeartbeats 4000000 in
theorem wX8_does_186 (fu : Nat) (C : hs_Cx p s m args meth c X A yX8_does cX8_does 6 none wsX8_does) (hem : ad hs_em = X.2.2.1.2.2.2)  {H : Heap} {locs : List Loc} {ls : Array Slot} (σ : hs_T) (x0 : Nat) (x2 : Int32) (x3 : Int32) (hf : fX8_does_186 fu  σ x0 x2 x3 = some (r, τ)) (hB : hs_H X.1 X.2.1 ad A σ H) (hS : va_S A s.heap H locs) (hl : lv_has ls 6 [(0, .ref (ad x0)), (2, .int x2), (3, .int x3)]) : W p l e rmX8_does s m args below meth c H locs 0 0 (MQ below (hs_Q0 hs_tvv X ad A r τ) args s 0 0 A) (F0 m 186 ls []) := by
  obtain ⟨hx, hb, hml, hr, hts, hown, hlk, hnm, hV, hA0, hA⟩ := id C
  have hown : s.vm.findClass RX8 = some m.cls := hown
  have hK := hV.1
  have hNw := hV.2.1
  unfold fX8_does_186 at hf
  refine lv_iload_n hx hb dX8_does_186 rfl (lv_at hl 1 rfl) ?_
  refine lv_bipush (v := 103) hx hb dX8_does_187 (by decide) ?_
  refine lv_icmp_ne (tgt := 197) hx hb dX8_does_189 (by decide) (fun h15 => ?_) (fun h15 => ?_)
  · have hf := hs_ff h15 hf
    obtain ⟨rfl, rfl⟩ := hs_ri hf
    exact hs_vret hx hb hr hlk hB hS dX8_does_197
  · have hf := hs_tt h15 hf
    refine lv_aload_n hx hb dX8_does_192 rfl (lv_at hl 0 rfl) ?_
    refine lv_iload_n hx hb dX8_does_193 rfl (lv_at hl 2 rfl) ?_
    obtain ⟨σ17, h16, hf⟩ := hs_bi hf
    refine x_putI hx hb hts inX8_does_X8 tyX8_ok nmX8 hown hK hB hS (by decide) rfl (k := 20) (by decide) rfl h16 (hts _ lkX8_does_0) (fun _ h9 => h9) rfl (by decide +kernel) dX8_does_194 (fun H locs hB hS => ?_)
    obtain ⟨rfl, rfl⟩ := hs_ri hf
    exact hs_vret hx hb hr hlk hB hS dX8_does_197
set_option maxRecDepth 100000 in
set_option maxHeartbeats 4000000 in
theorem wX8_does_153 (fu : Nat) (C : hs_Cx p s m args meth c X A yX8_does cX8_does 6 none wsX8_does) (hem : ad hs_em = X.2.2.1.2.2.2)  {H : Heap} {locs : List Loc} {ls : Array Slot} (σ : hs_T) (x0 : Nat) (x2 : Int32) (x3 : Int32) (hf : fX8_does_153 fu  σ x0 x2 x3 = some (r, τ)) (hB : hs_H X.1 X.2.1 ad A σ H) (hS : va_S A s.heap H locs) (hl : lv_has ls 6 [(0, .ref (ad x0)), (2, .int x2), (3, .int x3)]) : W p l e rmX8_does s m args below meth c H locs 0 0 (MQ below (hs_Q0 hs_tvv X ad A r τ) args s 0 0 A) (F0 m 153 ls []) := by
  obtain ⟨hx, hb, hml, hr, hts, hown, hlk, hnm, hV, hA0, hA⟩ := id C
  have hown : s.vm.findClass RX8 = some m.cls := hown
  have hK := hV.1
  have hNw := hV.2.1
  unfold fX8_does_153 at hf
  refine lv_iload_n hx hb dX8_does_153 rfl (lv_at hl 1 rfl) ?_
  refine lv_bipush (v := 106) hx hb dX8_does_154 (by decide) ?_
  refine lv_icmp_ne (tgt := 186) hx hb dX8_does_156 (by decide) (fun h14 => ?_) (fun h14 => ?_)
  · have hf := hs_ff h14 hf
    exact wX8_does_186 fu C hem σ x0 x2 x3 hf hB hS hl
  · have hf := hs_tt h14 hf
    refine lv_aload_n hx hb dX8_does_159 rfl (lv_at hl 0 rfl) ?_
    refine lv_dup hx hb dX8_does_160 rfl ?_
    obtain ⟨v19, h18, hf⟩ := hs_bi hf
    refine x_getI hx hb hts inX8_does_X8 hown hK hB (by decide) rfl (k := 19) (by decide) rfl h18 (hts _ lkX8_does_1) (fun _ h9 => h9) dX8_does_161 ?_
    refine lv_iconst (v := 1) hx hb dX8_does_164 (by decide) ?_
    refine lv_isub hx hb dX8_does_165 ?_
    obtain ⟨σ21, h20, hf⟩ := hs_bi hf
    refine x_putI hx hb hts inX8_does_X8 tyX8_ok nmX8 hown hK hB hS (by decide) rfl (k := 19) (by decide) rfl h20 (hts _ lkX8_does_1) (fun _ h9 => h9) rfl (by decide +kernel) dX8_does_166 (fun H locs hB hS => ?_)
    refine lv_aload_n hx hb dX8_does_169 rfl (lv_at hl 0 rfl) ?_
    obtain ⟨n23, h22, hf⟩ := hs_bi hf
    refine x_getN hx hb hts inX8_does_X8 hown hK hB (by decide) rfl (k := 18) (by decide) rfl h22 (hts _ lkX8_does_2) (fun _ h9 => h9) dX8_does_170 ?_
    refine lv_aload_n hx hb dX8_does_173 rfl (lv_at hl 0 rfl) ?_
    obtain ⟨v25, h24, hf⟩ := hs_bi hf
    refine x_getI hx hb hts inX8_does_X8 hown hK hB (by decide) rfl (k := 19) (by decide) rfl h24 (hts _ lkX8_does_1) (fun _ h9 => h9) dX8_does_174 ?_
    obtain ⟨v26, h27, hf⟩ := hs_bi hf
    refine x_iald hx hb hK hB h27 dX8_does_177 ?_
    refine lv_if_ne (tgt := 186) hx hb dX8_does_178 (by decide) (fun h28 => ?_) (fun h28 => ?_)
    · have hf := hs_ff h28 hf
      exact wX8_does_186 fu C hem σ21 x0 x2 x3 hf hB hS hl
    · have hf := hs_tt h28 hf
      refine lv_aload_n hx hb dX8_does_181 rfl (lv_at hl 0 rfl) ?_
      refine lv_iload_n hx hb dX8_does_182 rfl (lv_at hl 2 rfl) ?_
      obtain ⟨σ30, h29, hf⟩ := hs_bi hf
      refine x_putI hx hb hts inX8_does_X8 tyX8_ok nmX8 hown hK hB hS (by decide) rfl (k := 20) (by decide) rfl h29 (hts _ lkX8_does_0) (fun _ h9 => h9) rfl (by decide +kernel) dX8_does_183 (fun H locs hB hS => ?_)
      exact wX8_does_186 fu C hem σ30 x0 x2 x3 hf hB hS hl
set_option maxRecDepth 100000 in
set_option maxHeartbeats 4000000 in
theorem wX8_does_100 (fu : Nat) (C : hs_Cx p s m args meth c X A yX8_does cX8_does 6 none wsX8_does) (hem : ad hs_em = X.2.2.1.2.2.2)  {H : Heap} {locs : List Loc} {ls : Array Slot} (σ : hs_T) (x0 : Nat) (x2 : Int32) (x3 : Int32) (hf : fX8_does_100 fu  σ x0 x2 x3 = some (r, τ)) (hB : hs_H X.1 X.2.1 ad A σ H) (hS : va_S A s.heap H locs) (hl : lv_has ls 6 [(0, .ref (ad x0)), (2, .int x2), (3, .int x3)]) : W p l e rmX8_does s m args below meth c H locs 0 0 (MQ below (hs_Q0 hs_tvv X ad A r τ) args s 0 0 A) (F0 m 100 ls []) := by
  obtain ⟨hx, hb, hml, hr, hts, hown, hlk, hnm, hV, hA0, hA⟩ := id C
  have hown : s.vm.findClass RX8 = some m.cls := hown
  have hK := hV.1
  have hNw := hV.2.1
  unfold fX8_does_100 at hf
  refine lv_iload_n hx hb dX8_does_100 rfl (lv_at hl 1 rfl) ?_
  obtain ⟨v12, σ11, h10, hf⟩ := hs_b2i hf
  refine hs_call0 (va_runS (As := [.int x2]) (rest := []) ⟨hx, hb, hml, hown, hts⟩ (ctX8_needs l fu σ x2 X ad H.size _ _ h10) (va_cwS 1 hts gX8_does_X8_needs rfl rfl rfl (by decide +kernel) ⟨Nat.le_of_ble_eq_true rfl, Nat.le_of_ble_eq_true rfl⟩) (hs_pre hV hB hS hA0 hA hem) rfl rfl hl.1 rfl (lv_room (Nat.le_of_ble_eq_true rfl)) dX8_does_101 ⟨Nat.le_of_ble_eq_true rfl, Nat.le_of_ble_eq_true rfl⟩) hB hS hA rfl (fun H locs hB hS => ?_)
  refine lv_iconst (v := 2) hx hb dX8_does_104 (by decide) ?_
  refine lv_icmp_ne (tgt := 153) hx hb dX8_does_105 (by decide) (fun h13 => ?_) (fun h13 => ?_)
  · have hf := hs_ff h13 hf
    exact wX8_does_153 fu C hem σ11 x0 x2 x3 hf hB hS hl
  · have hf := hs_tt h13 hf
    refine lv_aload_n hx hb dX8_does_108 rfl (lv_at hl 0 rfl) ?_
    refine lv_dup hx hb dX8_does_109 rfl ?_
    obtain ⟨v32, h31, hf⟩ := hs_bi hf
    refine x_getI hx hb hts inX8_does_X8 hown hK hB (by decide) rfl (k := 19) (by decide) rfl h31 (hts _ lkX8_does_1) (fun _ h9 => h9) dX8_does_110 ?_
    refine lv_iconst (v := 1) hx hb dX8_does_113 (by decide) ?_
    refine lv_isub hx hb dX8_does_114 ?_
    obtain ⟨σ34, h33, hf⟩ := hs_bi hf
    refine x_putI hx hb hts inX8_does_X8 tyX8_ok nmX8 hown hK hB hS (by decide) rfl (k := 19) (by decide) rfl h33 (hts _ lkX8_does_1) (fun _ h9 => h9) rfl (by decide +kernel) dX8_does_115 (fun H locs hB hS => ?_)
    refine lv_aload_n hx hb dX8_does_118 rfl (lv_at hl 0 rfl) ?_
    obtain ⟨n36, h35, hf⟩ := hs_bi hf
    refine x_getN hx hb hts inX8_does_X8 hown hK hB (by decide) rfl (k := 18) (by decide) rfl h35 (hts _ lkX8_does_2) (fun _ h9 => h9) dX8_does_119 ?_
    refine lv_aload_n hx hb dX8_does_122 rfl (lv_at hl 0 rfl) ?_
    obtain ⟨v38, h37, hf⟩ := hs_bi hf
    refine x_getI hx hb hts inX8_does_X8 hown hK hB (by decide) rfl (k := 19) (by decide) rfl h37 (hts _ lkX8_does_1) (fun _ h9 => h9) dX8_does_123 ?_
    refine lv_iconst (v := 1) hx hb dX8_does_126 (by decide) ?_
    refine lv_isub hx hb dX8_does_127 ?_
    refine lv_aload_n hx hb dX8_does_128 rfl (lv_at hl 0 rfl) ?_
    obtain ⟨n40, h39, hf⟩ := hs_bi hf
    refine x_getN hx hb hts inX8_does_X8 hown hK hB (by decide) rfl (k := 18) (by decide) rfl h39 (hts _ lkX8_does_2) (fun _ h9 => h9) dX8_does_129 ?_
    refine lv_aload_n hx hb dX8_does_132 rfl (lv_at hl 0 rfl) ?_
    obtain ⟨v42, h41, hf⟩ := hs_bi hf
    refine x_getI hx hb hts inX8_does_X8 hown hK hB (by decide) rfl (k := 19) (by decide) rfl h41 (hts _ lkX8_does_1) (fun _ h9 => h9) dX8_does_133 ?_
    refine lv_iconst (v := 1) hx hb dX8_does_136 (by decide) ?_
    refine lv_isub hx hb dX8_does_137 ?_
    obtain ⟨v43, h44, hf⟩ := hs_bi hf
    refine x_iald hx hb hK hB h44 dX8_does_138 ?_
    refine lv_aload_n hx hb dX8_does_139 rfl (lv_at hl 0 rfl) ?_
    obtain ⟨n46, h45, hf⟩ := hs_bi hf
    refine x_getN hx hb hts inX8_does_X8 hown hK hB (by decide) rfl (k := 18) (by decide) rfl h45 (hts _ lkX8_does_2) (fun _ h9 => h9) dX8_does_140 ?_
    refine lv_aload_n hx hb dX8_does_143 rfl (lv_at hl 0 rfl) ?_
    obtain ⟨v48, h47, hf⟩ := hs_bi hf
    refine x_getI hx hb hts inX8_does_X8 hown hK hB (by decide) rfl (k := 19) (by decide) rfl h47 (hts _ lkX8_does_1) (fun _ h9 => h9) dX8_does_144 ?_
    obtain ⟨v49, h50, hf⟩ := hs_bi hf
    refine x_iald hx hb hK hB h50 dX8_does_147 ?_
    refine lv_iload_n hx hb dX8_does_148 rfl (lv_at hl 1 rfl) ?_
    obtain ⟨v53, σ52, h51, hf⟩ := hs_b2i hf
    refine hs_call0 (va_runS (As := [.int v43, .int v49, .int x2]) (rest := [.int (v38 - 1), .ref (ad n36)]) ⟨hx, hb, hml, hown, hts⟩ (ctX8_of l fu σ34 v43 v49 x2 X ad H.size _ _ h51) (va_cwS 3 hts gX8_does_X8_of rfl rfl rfl (by decide +kernel) ⟨Nat.le_of_ble_eq_true rfl, Nat.le_of_ble_eq_true rfl⟩) (hs_pre hV hB hS hA0 hA hem) rfl rfl hl.1 rfl (lv_room (Nat.le_of_ble_eq_true rfl)) dX8_does_149 ⟨Nat.le_of_ble_eq_true rfl, Nat.le_of_ble_eq_true rfl⟩) hB hS hA rfl (fun H locs hB hS => ?_)
    obtain ⟨σ54, h55, hf⟩ := hs_bi hf
    refine x_iast hx hb hK hB hS h55 dX8_does_152 (fun H locs hB hS => ?_)
    exact wX8_does_153 fu C hem σ54 x0 x2 x3 hf hB hS hl
set_option maxRecDepth 100000 in
set_option maxHeartbeats 4000000 in
theorem wX8_does_64 (fu : Nat) (C : hs_Cx p s m args meth c X A yX8_does cX8_does 6 none wsX8_does) (hem : ad hs_em = X.2.2.1.2.2.2)  {H : Heap} {locs : List Loc} {ls : Array Slot} (σ : hs_T) (x0 : Nat) (x1 : Int32) (x2 : Int32) (x3 : Int32) (hf : fX8_does_64 fu  σ x0 x1 x2 x3 = some (r, τ)) (hB : hs_H X.1 X.2.1 ad A σ H) (hS : va_S A s.heap H locs) (hl : lv_has ls 6 [(0, .ref (ad x0)), (1, .int x1), (2, .int x2), (3, .int x3)]) : W p l e rmX8_does s m args below meth c H locs 0 0 (MQ below (hs_Q0 hs_tvv X ad A r τ) args s 0 0 A) (F0 m 64 ls []) := by
  obtain ⟨hx, hb, hml, hr, hts, hown, hlk, hnm, hV, hA0, hA⟩ := id C
  have hown : s.vm.findClass RX8 = some m.cls := hown
  have hK := hV.1
  have hNw := hV.2.1
  unfold fX8_does_64 at hf
  refine lv_iload_n hx hb dX8_does_64 rfl (lv_at hl 2 rfl) ?_
  refine lv_bipush (v := 115) hx hb dX8_does_65 (by decide) ?_
  refine lv_icmp_ne (tgt := 100) hx hb dX8_does_67 (by decide) (fun h9 => ?_) (fun h9 => ?_)
  · have hf := hs_ff h9 hf
    exact wX8_does_100 fu C hem σ x0 x2 x3 hf hB hS (lv_sub hl [0, 2, 3] rfl)
  · have hf := hs_tt h9 hf
    refine lv_aload_n hx hb dX8_does_70 rfl (lv_at hl 0 rfl) ?_
    refine lv_dup hx hb dX8_does_71 rfl ?_
    obtain ⟨v57, h56, hf⟩ := hs_bi hf
    refine x_getI hx hb hts inX8_does_X8 hown hK hB (by decide) rfl (k := 19) (by decide) rfl h56 (hts _ lkX8_does_1) (fun _ h9 => h9) dX8_does_72 ?_
    refine lv_iconst (v := 1) hx hb dX8_does_75 (by decide) ?_
    refine lv_isub hx hb dX8_does_76 ?_
    obtain ⟨σ59, h58, hf⟩ := hs_bi hf
    refine x_putI hx hb hts inX8_does_X8 tyX8_ok nmX8 hown hK hB hS (by decide) rfl (k := 19) (by decide) rfl h58 (hts _ lkX8_does_1) (fun _ h9 => h9) rfl (by decide +kernel) dX8_does_77 (fun H locs hB hS => ?_)
    refine lv_aload_n hx hb dX8_does_80 rfl (lv_at hl 0 rfl) ?_
    obtain ⟨n61, h60, hf⟩ := hs_bi hf
    refine x_getN hx hb hts inX8_does_X8 hown hK hB (by decide) rfl (k := 12) (by decide) rfl h60 (hts _ lkX8_does_3) (fun _ h9 => h9) dX8_does_81 ?_
    refine lv_bipush (v := 8) hx hb dX8_does_84 (by decide) ?_
    refine lv_iload_n hx hb dX8_does_86 rfl (lv_at hl 1 rfl) ?_
    refine lv_imul hx hb dX8_does_87 ?_
    refine lv_iload_n hx hb dX8_does_88 rfl (lv_at hl 3 rfl) ?_
    refine lv_iadd hx hb dX8_does_89 ?_
    refine lv_aload_n hx hb dX8_does_90 rfl (lv_at hl 0 rfl) ?_
    obtain ⟨n63, h62, hf⟩ := hs_bi hf
    refine x_getN hx hb hts inX8_does_X8 hown hK hB (by decide) rfl (k := 18) (by decide) rfl h62 (hts _ lkX8_does_2) (fun _ h9 => h9) dX8_does_91 ?_
    refine lv_aload_n hx hb dX8_does_94 rfl (lv_at hl 0 rfl) ?_
    obtain ⟨v65, h64, hf⟩ := hs_bi hf
    refine x_getI hx hb hts inX8_does_X8 hown hK hB (by decide) rfl (k := 19) (by decide) rfl h64 (hts _ lkX8_does_1) (fun _ h9 => h9) dX8_does_95 ?_
    obtain ⟨v66, h67, hf⟩ := hs_bi hf
    refine x_iald hx hb hK hB h67 dX8_does_98 ?_
    obtain ⟨σ68, h69, hf⟩ := hs_bi hf
    refine x_iast hx hb hK hB hS h69 dX8_does_99 (fun H locs hB hS => ?_)
    exact wX8_does_100 fu C hem σ68 x0 x2 x3 hf hB hS (lv_sub hl [0, 2, 3] rfl)
set_option maxRecDepth 100000 in
set_option maxHeartbeats 4000000 in
theorem wX8_does_61 (fu : Nat) (C : hs_Cx p s m args meth c X A yX8_does cX8_does 6 none wsX8_does) (hem : ad hs_em = X.2.2.1.2.2.2)  {H : Heap} {locs : List Loc} {ls : Array Slot} (σ : hs_T) (x0 : Nat) (x1 : Int32) (x2 : Int32) (x3 : Int32) (y0 : Int32) (y1 : Nat) (hf : fX8_does_61 fu  σ x0 x1 x2 x3 y0 y1 = some (r, τ)) (hB : hs_H X.1 X.2.1 ad A σ H) (hS : va_S A s.heap H locs) (hl : lv_has ls 6 [(0, .ref (ad x0)), (1, .int x1), (2, .int x2), (3, .int x3)]) : W p l e rmX8_does s m args below meth c H locs 0 0 (MQ below (hs_Q0 hs_tvv X ad A r τ) args s 0 0 A) (F0 m 61 ls [.int y0, .ref (ad y1)]) := by
  obtain ⟨hx, hb, hml, hr, hts, hown, hlk, hnm, hV, hA0, hA⟩ := id C
  have hown : s.vm.findClass RX8 = some m.cls := hown
  have hK := hV.1
  have hNw := hV.2.1
  unfold fX8_does_61 at hf
  obtain ⟨_, h79, hf⟩ := hs_bi hf
  obtain ⟨_, σ78, h77, hf⟩ := hs_b2i hf
  refine hs_call0 (va_runV (As := [.int y0]) (rest := []) ⟨hx, hb, hml, hown, hts⟩ (ctX8_pushes l fu σ y1 y0 X ad H.size _ _ h77) (cwV 1 hts gX8_does_X8_pushes rfl rfl rfl (by decide +kernel) ⟨Nat.le_of_ble_eq_true rfl, Nat.le_of_ble_eq_true rfl⟩) (hs_preV (hs_recv hK hB (hs_ck_i h79) (by decide) rfl) hV hB hS hA0 hA hem) rfl rfl hl.1 rfl (lv_room (Nat.le_of_ble_eq_true rfl)) dX8_does_61 ⟨Nat.le_of_ble_eq_true rfl, Nat.le_of_ble_eq_true rfl⟩) hB hS hA rfl (fun H locs hB hS => ?_)
  exact wX8_does_64 fu C hem σ78 x0 x1 x2 x3 hf hB hS hl
set_option maxRecDepth 100000 in
set_option maxHeartbeats 4000000 in
theorem wX8_does_e (fu : Nat) (C : hs_Cx p s m args meth c X A yX8_does cX8_does 6 none wsX8_does) (hem : ad hs_em = X.2.2.1.2.2.2) {H : Heap} {locs : List Loc} {ls : Array Slot} (σ : hs_T) (o : Nat) (a1 : Int32) (a2 : Int32) (a3 : Int32) (a4 : Int32) (a5 : Int32) (hf : fX8_does fu σ o a1 a2 a3 a4 a5 = some (r, τ)) (hB : hs_H X.1 X.2.1 ad A σ H) (hS : va_S A s.heap H locs) (hl : lv_has ls 6 [(0, .ref (ad o)), (1, .int a1), (2, .int a2), (3, .int a3), (4, .int a4), (5, .int a5)]) : W p l e rmX8_does s m args below meth c H locs 0 0 (MQ below (hs_Q0 hs_tvv X ad A r τ) args s 0 0 A) (F0 m 0 ls []) := by
  obtain ⟨hx, hb, hml, hr, hts, hown, hlk, hnm, hV, hA0, hA⟩ := id C
  have hown : s.vm.findClass RX8 = some m.cls := hown
  have hK := hV.1
  have hNw := hV.2.1
  unfold fX8_does at hf
  refine lv_aload_n hx hb dX8_does_0 rfl (lv_at hl 0 rfl) ?_
  refine lv_dup hx hb dX8_does_1 rfl ?_
  obtain ⟨v2, h1, hf⟩ := hs_bi hf
  refine x_getI hx hb hts inX8_does_X8 hown hK hB (by decide) rfl (k := 20) (by decide) rfl h1 (hts _ lkX8_does_0) (fun _ h9 => h9) dX8_does_2 ?_
  refine lv_iconst (v := 1) hx hb dX8_does_5 (by decide) ?_
  refine lv_iadd hx hb dX8_does_6 ?_
  obtain ⟨σ4, h3, hf⟩ := hs_bi hf
  refine x_putI hx hb hts inX8_does_X8 tyX8_ok nmX8 hown hK hB hS (by decide) rfl (k := 20) (by decide) rfl h3 (hts _ lkX8_does_0) (fun _ h9 => h9) rfl (by decide +kernel) dX8_does_7 (fun H locs hB hS => ?_)
  refine lv_iload_n hx hb dX8_does_10 rfl (lv_at hl 2 rfl) ?_
  obtain ⟨v7, σ6, h5, hf⟩ := hs_b2i hf
  refine hs_call0 (va_runS (As := [.int a2]) (rest := []) ⟨hx, hb, hml, hown, hts⟩ (ctX8_isPush l fu σ4 a2 X ad H.size _ _ h5) (va_cwS 1 hts gX8_does_X8_isPush rfl rfl rfl (by decide +kernel) ⟨Nat.le_of_ble_eq_true rfl, Nat.le_of_ble_eq_true rfl⟩) (hs_pre hV hB hS hA0 hA hem) rfl rfl hl.1 rfl (lv_room (Nat.le_of_ble_eq_true rfl)) dX8_does_11 ⟨Nat.le_of_ble_eq_true rfl, Nat.le_of_ble_eq_true rfl⟩) hB hS hA rfl (fun H locs hB hS => ?_)
  refine lv_if_eq (tgt := 64) hx hb dX8_does_14 (by decide) (fun h8 => ?_) (fun h8 => ?_)
  · have hf := hs_tt h8 hf
    exact wX8_does_64 fu C hem σ6 o a1 a2 a3 hf hB hS (lv_sub hl [0, 1, 2, 3] rfl)
  · have hf := hs_ff h8 hf
    refine lv_aload_n hx hb dX8_does_17 rfl (lv_at hl 0 rfl) ?_
    refine lv_iload_n hx hb dX8_does_18 rfl (lv_at hl 2 rfl) ?_
    refine lv_bipush (v := 112) hx hb dX8_does_19 (by decide) ?_
    refine lv_icmp_ne (tgt := 28) hx hb dX8_does_21 (by decide) (fun h70 => ?_) (fun h70 => ?_)
    · have hf := hs_ff h70 hf
      refine lv_iload_n hx hb dX8_does_28 rfl (lv_at hl 2 rfl) ?_
      refine lv_bipush (v := 97) hx hb dX8_does_29 (by decide) ?_
      refine lv_icmp_ne (tgt := 39) hx hb dX8_does_31 (by decide) (fun h71 => ?_) (fun h71 => ?_)
      · have hf := hs_ff h71 hf
        refine lv_iload_n hx hb dX8_does_39 rfl (lv_at hl 2 rfl) ?_
        refine lv_bipush (v := 98) hx hb dX8_does_40 (by decide) ?_
        refine lv_icmp_ne (tgt := 50) hx hb dX8_does_42 (by decide) (fun h72 => ?_) (fun h72 => ?_)
        · have hf := hs_ff h72 hf
          refine lv_aload_n hx hb dX8_does_50 rfl (lv_at hl 0 rfl) ?_
          obtain ⟨n74, h73, hf⟩ := hs_bi hf
          refine x_getN hx hb hts inX8_does_X8 hown hK hB (by decide) rfl (k := 12) (by decide) rfl h73 (hts _ lkX8_does_3) (fun _ h9 => h9) dX8_does_51 ?_
          refine lv_bipush (v := 8) hx hb dX8_does_54 (by decide) ?_
          refine lv_iload_n hx hb dX8_does_56 rfl (lv_at hl 1 rfl) ?_
          refine lv_imul hx hb dX8_does_57 ?_
          refine lv_iload_n hx hb dX8_does_58 rfl (lv_at hl 3 rfl) ?_
          refine lv_iadd hx hb dX8_does_59 ?_
          obtain ⟨v75, h76, hf⟩ := hs_bi hf
          refine x_iald hx hb hK hB h76 dX8_does_60 ?_
          exact wX8_does_61 fu C hem σ6 o a1 a2 a3 v75 o hf hB hS (lv_sub hl [0, 1, 2, 3] rfl)
        · have hf := hs_tt h72 hf
          refine lv_iload hx hb dX8_does_45 (lv_at hl 5 rfl) ?_
          refine lv_goto (tgt := 61) hx hb dX8_does_47 (by decide) ?_
          exact wX8_does_61 fu C hem σ6 o a1 a2 a3 a5 o hf hB hS (lv_sub hl [0, 1, 2, 3] rfl)
      · have hf := hs_tt h71 hf
        refine lv_iload hx hb dX8_does_34 (lv_at hl 4 rfl) ?_
        refine lv_goto (tgt := 61) hx hb dX8_does_36 (by decide) ?_
        exact wX8_does_61 fu C hem σ6 o a1 a2 a3 a4 o hf hB hS (lv_sub hl [0, 1, 2, 3] rfl)
    · have hf := hs_tt h70 hf
      refine lv_iload_n hx hb dX8_does_24 rfl (lv_at hl 3 rfl) ?_
      refine lv_goto (tgt := 61) hx hb dX8_does_25 (by decide) ?_
      exact wX8_does_61 fu C hem σ6 o a1 a2 a3 a3 o hf hB hS (lv_sub hl [0, 1, 2, 3] rfl)
end SX8_does
set_option maxRecDepth 100000 in
theorem ctX8_does (l : Launch) (fu : Nat) (σ : hs_T) (o : Nat) (a1 : Int32) (a2 : Int32) (a3 : Int32) (a4 : Int32) (a5 : Int32) : hs_C0 hs_tvv l yX8_does wsX8_does rmX8_does (fun ad => [.ref (ad o), .int a1, .int a2, .int a3, .int a4, .int a5]) σ (fX8_does fu σ o a1 a2 a3 a4 a5) := by
  intro X ad sz r τ hf
  refine hs_enter (cc := cX8_does) (maxL := 6) (ret := none) (by decide) rfl (Nat.le_of_ble_eq_true rfl) ?_
  intro p e s m below meth c ls C hl hem hB hS hsz
  exact wX8_does_e fu C hem σ o a1 a2 a3 a4 a5 hf hB hS hl
/-! ServiceGameModel.runs(III)I -/
abbrev rmX8_runs : Room := { frames := 2, cells := 0, slots := 0, locals := 47 }
theorem inX8_runs_X8 : ∀ w ∈ wsX80, w ∈ wsX8_runs := fun _ h => List.mem_cons_of_mem _ (List.mem_append_right _ h)
theorem lkX8_runs_0 : Cond.fieldLink RX8 173 "ServiceGameModel" "high" "I" ∈ wsX8_runs := by decide +kernel
theorem lkX8_runs_1 : Cond.fieldLink RX8 178 "ServiceGameModel" "next" "I" ∈ wsX8_runs := by decide +kernel
theorem lkX8_runs_2 : Cond.fieldLink RX8 19 "ServiceGameModel" "size" "[I" ∈ wsX8_runs := by decide +kernel
theorem lkX8_runs_3 : Cond.fieldLink RX8 47 "ServiceGameModel" "set" "[I" ∈ wsX8_runs := by decide +kernel
theorem lkX8_runs_4 : Cond.fieldLink RX8 195 "ServiceGameModel" "fuelAll" "I" ∈ wsX8_runs := by decide +kernel
theorem lkX8_runs_5 : Cond.constant RX8 198 (1000000) ∈ wsX8_runs := by decide +kernel
theorem lkX8_runs_6 : Cond.fieldLink RX8 13 "ServiceGameModel" "step" "[I" ∈ wsX8_runs := by decide +kernel
theorem lkX8_runs_7 : Cond.fieldLink RX8 38 "ServiceGameModel" "brokeMany" "[I" ∈ wsX8_runs := by decide +kernel
theorem lkX8_runs_8 : Cond.fieldLink RX8 32 "ServiceGameModel" "cell" "[I" ∈ wsX8_runs := by decide +kernel
theorem lkX8_runs_9 : Cond.fieldLink RX8 35 "ServiceGameModel" "kept" "[I" ∈ wsX8_runs := by decide +kernel
theorem lkX8_runs_10 : Cond.fieldLink RX8 16 "ServiceGameModel" "number" "[I" ∈ wsX8_runs := by decide +kernel
theorem lkX8_runs_11 : Cond.fieldLink RX8 50 "ServiceGameModel" "pile" "[I" ∈ wsX8_runs := by decide +kernel
theorem lkX8_runs_12 : Cond.fieldLink RX8 41 "ServiceGameModel" "fuelMany" "[I" ∈ wsX8_runs := by decide +kernel
def fX8_runs_150b (fu : Nat)  (k150 : hs_T → Nat → Int32 → Int32 → Option (Int32 × hs_T)) (σ : hs_T) (x0 : Nat) (x1 : Int32) (x6 : Int32) : Option (Int32 × hs_T) :=
 if 8 ≤ x6 then
 ((hs_gN σ 10 x0 14).bind fun n36 =>
 (hs_ld σ 11 n36 x1).bind fun v37 =>
 (hs_st σ 11 n36 x1 (v37 + 1)).bind fun σ39 =>
 some (10002, σ39))
 else
 ((hs_gN σ 10 x0 12).bind fun n42 =>
 (hs_gN σ 10 x0 13).bind fun n44 =>
 (hs_ld σ 11 n44 x6).bind fun v45 =>
 (hs_st σ 11 n42 ((8 * x1) + x6) v45).bind fun σ47 =>
 k150 σ47 x0 x1 (x6 + 1))
def fX8_runs_150 (fu : Nat)  (σ : hs_T) (x0 : Nat) (x1 : Int32) (x6 : Int32) : Option (Int32 × hs_T) :=
   hs_lp (fun (k : hs_T × Nat × Int32 × Int32 → Option (Int32 × hs_T)) (a : hs_T × Nat × Int32 × Int32) => fX8_runs_150b fu  (fun σ x0 x1 x6 => k (σ, x0, x1, x6)) a.1 a.2.1 a.2.2.1 a.2.2.2) fu (σ, x0, x1, x6)
def fX8_runs_196 (fu : Nat) (k48 : hs_T → Nat → Int32 → Int32 → Int32 → Int32 → Option (Int32 × hs_T)) (σ : hs_T) (x0 : Nat) (x1 : Int32) (x2 : Int32) (x3 : Int32) (x4 : Int32) (x5 : Int32) : Option (Int32 × hs_T) :=
 if x5 = 111 then
 ((hs_gN σ 10 x0 18).bind fun n65 =>
 (hs_gI σ 10 x0 19).bind fun v67 =>
 (hs_ld σ 11 n65 (v67 - 1)).bind fun v68 =>
 some (v68, σ))
 else
 (if x5 = 104 then
 (some (10000, σ))
 else
 ((hs_gN σ 10 x0 4).bind fun n56 =>
 (hs_gI σ 10 x0 20).bind fun v58 =>
 (hs_ld σ 11 n56 ((24 * x1) + v58)).bind fun v59 =>
 (hs_ck σ 10 x0).bind fun _ =>
 hs_b2 (fX8_does fu σ x0 x1 x5 v59 x2 x3) fun _ σ62 =>
 k48 σ62 x0 x1 x2 x3 x4))
def fX8_runs_48b (fu : Nat)  (k48 : hs_T → Nat → Int32 → Int32 → Int32 → Int32 → Option (Int32 × hs_T)) (σ : hs_T) (x0 : Nat) (x1 : Int32) (x2 : Int32) (x3 : Int32) (x4 : Int32) : Option (Int32 × hs_T) :=
 (hs_gI σ 10 x0 20).bind fun v7 =>
 (hs_gN σ 10 x0 5).bind fun n9 =>
 (hs_ld σ 11 n9 x1).bind fun v10 =>
 if v10 ≤ v7 then
 (some (10000, σ))
 else
 ((hs_gN σ 10 x0 17).bind fun n14 =>
 (hs_ld σ 11 n14 0).bind fun v15 =>
 if x4 = v15 then
 ((hs_gN σ 10 x0 15).bind fun n74 =>
 (hs_ld σ 11 n74 x1).bind fun v75 =>
 (hs_st σ 11 n74 x1 (v75 + 1)).bind fun σ77 =>
 some (10001, σ77))
 else
 ((hs_gI σ 10 x0 21).bind fun v19 =>
 (hs_pI σ 10 x0 21 ((v19 + 1) - (v19 + 1) / 1000000 * 1000000)).bind fun σ21 =>
 (hs_gN σ21 10 x0 3).bind fun n23 =>
 (hs_gI σ21 10 x0 20).bind fun v25 =>
 (hs_ld σ21 11 n23 ((24 * x1) + v25)).bind fun v26 =>
 (hs_gI σ21 10 x0 19).bind fun v29 =>
 hs_b2 (fX8_needs fu σ21 v26) fun v32 σ31 =>
 if v29 < v32 then
 (fX8_runs_150 fu σ31 x0 x1 0)
 else
 (hs_b2 (fX8_isPush fu σ31 v26) fun v51 σ50 =>
 if v51 = 0 then
 (fX8_runs_196 fu k48 σ50 x0 x1 x2 x3 (x4 + 1) v26)
 else
 ((hs_gI σ50 10 x0 19).bind fun v71 =>
 if v71 = 8 then
 (fX8_runs_150 fu σ50 x0 x1 0)
 else
 (fX8_runs_196 fu k48 σ50 x0 x1 x2 x3 (x4 + 1) v26)))))
def fX8_runs_48 (fu : Nat)  (σ : hs_T) (x0 : Nat) (x1 : Int32) (x2 : Int32) (x3 : Int32) (x4 : Int32) : Option (Int32 × hs_T) :=
   hs_lp (fun (k : hs_T × Nat × Int32 × Int32 × Int32 × Int32 → Option (Int32 × hs_T)) (a : hs_T × Nat × Int32 × Int32 × Int32 × Int32) => fX8_runs_48b fu  (fun σ x0 x1 x2 x3 x4 => k (σ, x0, x1, x2, x3, x4)) a.1 a.2.1 a.2.2.1 a.2.2.2.1 a.2.2.2.2.1 a.2.2.2.2.2) fu (σ, x0, x1, x2, x3, x4)
def fX8_runs_13b (fu : Nat)  (k13 : hs_T → Nat → Int32 → Int32 → Int32 → Int32 → Option (Int32 × hs_T)) (σ : hs_T) (x0 : Nat) (x1 : Int32) (x2 : Int32) (x3 : Int32) (x4 : Int32) : Option (Int32 × hs_T) :=
 if 8 ≤ x4 then
 (fX8_runs_48 fu σ x0 x1 x2 x3 0)
 else
 ((hs_gN σ 10 x0 13).bind fun n80 =>
 (hs_gN σ 10 x0 12).bind fun n82 =>
 (hs_ld σ 11 n82 ((8 * x1) + x4)).bind fun v83 =>
 (hs_st σ 11 n80 x4 v83).bind fun σ85 =>
 k13 σ85 x0 x1 x2 x3 (x4 + 1))
def fX8_runs_13 (fu : Nat)  (σ : hs_T) (x0 : Nat) (x1 : Int32) (x2 : Int32) (x3 : Int32) (x4 : Int32) : Option (Int32 × hs_T) :=
   hs_lp (fun (k : hs_T × Nat × Int32 × Int32 × Int32 × Int32 → Option (Int32 × hs_T)) (a : hs_T × Nat × Int32 × Int32 × Int32 × Int32) => fX8_runs_13b fu  (fun σ x0 x1 x2 x3 x4 => k (σ, x0, x1, x2, x3, x4)) a.1 a.2.1 a.2.2.1 a.2.2.2.1 a.2.2.2.2.1 a.2.2.2.2.2) fu (σ, x0, x1, x2, x3, x4)
def fX8_runs (fu : Nat) (σ : hs_T) (o : Nat) (a1 : Int32) (a2 : Int32) (a3 : Int32) : Option (Int32 × hs_T) :=
 (hs_pI σ 10 o 19 0).bind fun σ2 =>
 (hs_pI σ2 10 o 20 0).bind fun σ4 =>
 fX8_runs_13 fu σ4 o a1 a2 a3 0
section SX8_runs
variable {p : Program} {l : Launch} {e : Env} {s : State} {m : MethodId} {args : Array Value} {below : List Frame} {meth : Method} {c : Code} {X : hs_X} {ad : Nat → Nat} {A : Nat → Prop} {r : Int32} {τ : hs_T}
set_option maxRecDepth 100000 in
set_option maxHeartbeats 4000000 in
theorem wX8_runs_150b (fu : Nat) (C : hs_Cx p s m args meth c X A yX8_runs cX8_runs 7 (some .int) wsX8_runs) (hem : ad hs_em = X.2.2.1.2.2.2)  (k150 : hs_T → Nat → Int32 → Int32 → Option (Int32 × hs_T)) (hk150 : ∀ (σ : hs_T) (x0 : Nat) (x1 : Int32) (x6 : Int32) (H : Heap) (locs : List Loc) (ls : Array Slot), k150 σ x0 x1 x6 = some (r, τ) → hs_H X.1 X.2.1 ad A σ H → va_S A s.heap H locs → lv_has ls 7 [(0, .ref (ad x0)), (1, .int x1), (6, .int x6)] → W p l e rmX8_runs s m args below meth c H locs 0 0 (MQ below (hs_Q0 hs_tvi X ad A r τ) args s 0 0 A) (F0 m 150 ls [])) {H : Heap} {locs : List Loc} {ls : Array Slot} (σ : hs_T) (x0 : Nat) (x1 : Int32) (x6 : Int32) (hf : fX8_runs_150b fu  k150 σ x0 x1 x6 = some (r, τ)) (hB : hs_H X.1 X.2.1 ad A σ H) (hS : va_S A s.heap H locs) (hl : lv_has ls 7 [(0, .ref (ad x0)), (1, .int x1), (6, .int x6)]) : W p l e rmX8_runs s m args below meth c H locs 0 0 (MQ below (hs_Q0 hs_tvi X ad A r τ) args s 0 0 A) (F0 m 150 ls []) := by
  obtain ⟨hx, hb, hml, hr, hts, hown, hlk, hnm, hV, hA0, hA⟩ := id C
  have hown : s.vm.findClass RX8 = some m.cls := hown
  have hK := hV.1
  have hNw := hV.2.1
  unfold fX8_runs_150b at hf
  refine lv_iload hx hb dX8_runs_150 (lv_at hl 2 rfl) ?_
  refine lv_bipush (v := 8) hx hb dX8_runs_152 (by decide) ?_
  refine lv_icmp_ge (tgt := 182) hx hb dX8_runs_154 (by decide) (fun h34 => ?_) (fun h34 => ?_)
  · have hf := hs_tt h34 hf
    refine lv_aload_n hx hb dX8_runs_182 rfl (lv_at hl 0 rfl) ?_
    obtain ⟨n36, h35, hf⟩ := hs_bi hf
    refine x_getN hx hb hts inX8_runs_X8 hown hK hB (by decide) rfl (k := 14) (by decide) rfl h35 (hts _ lkX8_runs_7) (fun _ h9 => h9) dX8_runs_183 ?_
    refine lv_iload_n hx hb dX8_runs_186 rfl (lv_at hl 1 rfl) ?_
    refine lv_dup2_11 hx hb dX8_runs_187 rfl rfl ?_
    obtain ⟨v37, h38, hf⟩ := hs_bi hf
    refine x_iald hx hb hK hB h38 dX8_runs_188 ?_
    refine lv_iconst (v := 1) hx hb dX8_runs_189 (by decide) ?_
    refine lv_iadd hx hb dX8_runs_190 ?_
    obtain ⟨σ39, h40, hf⟩ := hs_bi hf
    refine x_iast hx hb hK hB hS h40 dX8_runs_191 (fun H locs hB hS => ?_)
    refine lv_sipush (v := 10002) hx hb dX8_runs_192 (by decide) ?_
    obtain ⟨rfl, rfl⟩ := hs_ri hf
    exact hs_iret hx hb hr hlk hB hS dX8_runs_195
  · have hf := hs_ff h34 hf
    refine lv_aload_n hx hb dX8_runs_157 rfl (lv_at hl 0 rfl) ?_
    obtain ⟨n42, h41, hf⟩ := hs_bi hf
    refine x_getN hx hb hts inX8_runs_X8 hown hK hB (by decide) rfl (k := 12) (by decide) rfl h41 (hts _ lkX8_runs_8) (fun _ h9 => h9) dX8_runs_158 ?_
    refine lv_bipush (v := 8) hx hb dX8_runs_161 (by decide) ?_
    refine lv_iload_n hx hb dX8_runs_163 rfl (lv_at hl 1 rfl) ?_
    refine lv_imul hx hb dX8_runs_164 ?_
    refine lv_iload hx hb dX8_runs_165 (lv_at hl 2 rfl) ?_
    refine lv_iadd hx hb dX8_runs_167 ?_
    refine lv_aload_n hx hb dX8_runs_168 rfl (lv_at hl 0 rfl) ?_
    obtain ⟨n44, h43, hf⟩ := hs_bi hf
    refine x_getN hx hb hts inX8_runs_X8 hown hK hB (by decide) rfl (k := 13) (by decide) rfl h43 (hts _ lkX8_runs_9) (fun _ h9 => h9) dX8_runs_169 ?_
    refine lv_iload hx hb dX8_runs_172 (lv_at hl 2 rfl) ?_
    obtain ⟨v45, h46, hf⟩ := hs_bi hf
    refine x_iald hx hb hK hB h46 dX8_runs_174 ?_
    obtain ⟨σ47, h48, hf⟩ := hs_bi hf
    refine x_iast hx hb hK hB hS h48 dX8_runs_175 (fun H locs hB hS => ?_)
    refine lv_iinc (v := (x6 + 1)) (lv' := [(6, .int (x6 + 1)), (0, .ref (ad x0)), (1, .int x1)]) hx hb dX8_runs_176 hl (k := 2) rfl rfl (by decide) rfl (fun ls hl => ?_)
    refine lv_goto (tgt := 150) hx hb dX8_runs_179 (by decide) ?_
    exact hk150 σ47 x0 x1 (x6 + 1) _ _ _ hf hB hS (lv_sub hl [1, 2, 0] rfl)
set_option maxRecDepth 100000 in
set_option maxHeartbeats 4000000 in
theorem wX8_runs_150 (fu : Nat) (C : hs_Cx p s m args meth c X A yX8_runs cX8_runs 7 (some .int) wsX8_runs) (hem : ad hs_em = X.2.2.1.2.2.2)  {H : Heap} {locs : List Loc} {ls : Array Slot} (σ : hs_T) (x0 : Nat) (x1 : Int32) (x6 : Int32) (hf : fX8_runs_150 fu  σ x0 x1 x6 = some (r, τ)) (hB : hs_H X.1 X.2.1 ad A σ H) (hS : va_S A s.heap H locs) (hl : lv_has ls 7 [(0, .ref (ad x0)), (1, .int x1), (6, .int x6)]) : W p l e rmX8_runs s m args below meth c H locs 0 0 (MQ below (hs_Q0 hs_tvi X ad A r τ) args s 0 0 A) (F0 m 150 ls []) := by
  unfold fX8_runs_150 at hf
  exact hs_lp_i (P := fun a => ∀ (H : Heap) (locs : List Loc) (ls : Array Slot), hs_H X.1 X.2.1 ad A a.1 H → va_S A s.heap H locs → lv_has ls 7 [(0, .ref (ad a.2.1)), (1, .int a.2.2.1), (6, .int a.2.2.2)] → W p l e rmX8_runs s m args below meth c H locs 0 0 (MQ below (hs_Q0 hs_tvi X ad A r τ) args s 0 0 A) (F0 m 150 ls [])) (fun k a hk hf H locs ls hB hS hl => wX8_runs_150b fu C hem  _ (fun σ x0 x1 x6 H locs ls hf hB hS hl => hk (σ, x0, x1, x6) hf H locs ls hB hS hl) a.1 a.2.1 a.2.2.1 a.2.2.2 hf hB hS hl) fu (σ, x0, x1, x6) hf H locs ls hB hS hl
set_option maxRecDepth 100000 in
set_option maxHeartbeats 4000000 in
theorem wX8_runs_196 (fu : Nat) (C : hs_Cx p s m args meth c X A yX8_runs cX8_runs 7 (some .int) wsX8_runs) (hem : ad hs_em = X.2.2.1.2.2.2) (k48 : hs_T → Nat → Int32 → Int32 → Int32 → Int32 → Option (Int32 × hs_T)) (hk48 : ∀ (σ : hs_T) (x0 : Nat) (x1 : Int32) (x2 : Int32) (x3 : Int32) (x4 : Int32) (H : Heap) (locs : List Loc) (ls : Array Slot), k48 σ x0 x1 x2 x3 x4 = some (r, τ) → hs_H X.1 X.2.1 ad A σ H → va_S A s.heap H locs → lv_has ls 7 [(0, .ref (ad x0)), (1, .int x1), (2, .int x2), (3, .int x3), (4, .int x4)] → W p l e rmX8_runs s m args below meth c H locs 0 0 (MQ below (hs_Q0 hs_tvi X ad A r τ) args s 0 0 A) (F0 m 48 ls [])) {H : Heap} {locs : List Loc} {ls : Array Slot} (σ : hs_T) (x0 : Nat) (x1 : Int32) (x2 : Int32) (x3 : Int32) (x4 : Int32) (x5 : Int32) (hf : fX8_runs_196 fu k48 σ x0 x1 x2 x3 x4 x5 = some (r, τ)) (hB : hs_H X.1 X.2.1 ad A σ H) (hS : va_S A s.heap H locs) (hl : lv_has ls 7 [(0, .ref (ad x0)), (1, .int x1), (2, .int x2), (3, .int x3), (4, .int x4), (5, .int x5)]) : W p l e rmX8_runs s m args below meth c H locs 0 0 (MQ below (hs_Q0 hs_tvi X ad A r τ) args s 0 0 A) (F0 m 196 ls []) := by
  obtain ⟨hx, hb, hml, hr, hts, hown, hlk, hnm, hV, hA0, hA⟩ := id C
  have hown : s.vm.findClass RX8 = some m.cls := hown
  have hK := hV.1
  have hNw := hV.2.1
  unfold fX8_runs_196 at hf
  refine lv_iload hx hb dX8_runs_196 (lv_at hl 5 rfl) ?_
  refine lv_bipush (v := 111) hx hb dX8_runs_198 (by decide) ?_
  refine lv_icmp_ne (tgt := 215) hx hb dX8_runs_200 (by decide) (fun h53 => ?_) (fun h53 => ?_)
  · have hf := hs_ff h53 hf
    refine lv_iload hx hb dX8_runs_215 (lv_at hl 5 rfl) ?_
    refine lv_bipush (v := 104) hx hb dX8_runs_217 (by decide) ?_
    refine lv_icmp_ne (tgt := 226) hx hb dX8_runs_219 (by decide) (fun h54 => ?_) (fun h54 => ?_)
    · have hf := hs_ff h54 hf
      refine lv_aload_n hx hb dX8_runs_226 rfl (lv_at hl 0 rfl) ?_
      refine lv_iload_n hx hb dX8_runs_227 rfl (lv_at hl 1 rfl) ?_
      refine lv_iload hx hb dX8_runs_228 (lv_at hl 5 rfl) ?_
      refine lv_aload_n hx hb dX8_runs_230 rfl (lv_at hl 0 rfl) ?_
      obtain ⟨n56, h55, hf⟩ := hs_bi hf
      refine x_getN hx hb hts inX8_runs_X8 hown hK hB (by decide) rfl (k := 4) (by decide) rfl h55 (hts _ lkX8_runs_10) (fun _ h9 => h9) dX8_runs_231 ?_
      refine lv_bipush (v := 24) hx hb dX8_runs_234 (by decide) ?_
      refine lv_iload_n hx hb dX8_runs_236 rfl (lv_at hl 1 rfl) ?_
      refine lv_imul hx hb dX8_runs_237 ?_
      refine lv_aload_n hx hb dX8_runs_238 rfl (lv_at hl 0 rfl) ?_
      obtain ⟨v58, h57, hf⟩ := hs_bi hf
      refine x_getI hx hb hts inX8_runs_X8 hown hK hB (by decide) rfl (k := 20) (by decide) rfl h57 (hts _ lkX8_runs_1) (fun _ h9 => h9) dX8_runs_239 ?_
      refine lv_iadd hx hb dX8_runs_242 ?_
      obtain ⟨v59, h60, hf⟩ := hs_bi hf
      refine x_iald hx hb hK hB h60 dX8_runs_243 ?_
      refine lv_iload_n hx hb dX8_runs_244 rfl (lv_at hl 2 rfl) ?_
      refine lv_iload_n hx hb dX8_runs_245 rfl (lv_at hl 3 rfl) ?_
      obtain ⟨_, h63, hf⟩ := hs_bi hf
      obtain ⟨_, σ62, h61, hf⟩ := hs_b2i hf
      refine hs_call0 (va_runV (As := [.int x1, .int x5, .int v59, .int x2, .int x3]) (rest := []) ⟨hx, hb, hml, hown, hts⟩ (ctX8_does l fu σ x0 x1 x5 v59 x2 x3 X ad H.size _ _ h61) (cwV 5 hts gX8_runs_X8_does rfl rfl rfl (by decide +kernel) ⟨Nat.le_of_ble_eq_true rfl, Nat.le_of_ble_eq_true rfl⟩) (hs_preV (hs_recv hK hB (hs_ck_i h63) (by decide) rfl) hV hB hS hA0 hA hem) rfl rfl hl.1 rfl (lv_room (Nat.le_of_ble_eq_true rfl)) dX8_runs_246 ⟨Nat.le_of_ble_eq_true rfl, Nat.le_of_ble_eq_true rfl⟩) hB hS hA rfl (fun H locs hB hS => ?_)
      refine lv_goto (tgt := 48) hx hb dX8_runs_249 (by decide) ?_
      exact hk48 σ62 x0 x1 x2 x3 x4 _ _ _ hf hB hS (lv_sub hl [0, 1, 2, 3, 4] rfl)
    · have hf := hs_tt h54 hf
      refine lv_sipush (v := 10000) hx hb dX8_runs_222 (by decide) ?_
      obtain ⟨rfl, rfl⟩ := hs_ri hf
      exact hs_iret hx hb hr hlk hB hS dX8_runs_225
  · have hf := hs_tt h53 hf
    refine lv_aload_n hx hb dX8_runs_203 rfl (lv_at hl 0 rfl) ?_
    obtain ⟨n65, h64, hf⟩ := hs_bi hf
    refine x_getN hx hb hts inX8_runs_X8 hown hK hB (by decide) rfl (k := 18) (by decide) rfl h64 (hts _ lkX8_runs_11) (fun _ h9 => h9) dX8_runs_204 ?_
    refine lv_aload_n hx hb dX8_runs_207 rfl (lv_at hl 0 rfl) ?_
    obtain ⟨v67, h66, hf⟩ := hs_bi hf
    refine x_getI hx hb hts inX8_runs_X8 hown hK hB (by decide) rfl (k := 19) (by decide) rfl h66 (hts _ lkX8_runs_0) (fun _ h9 => h9) dX8_runs_208 ?_
    refine lv_iconst (v := 1) hx hb dX8_runs_211 (by decide) ?_
    refine lv_isub hx hb dX8_runs_212 ?_
    obtain ⟨v68, h69, hf⟩ := hs_bi hf
    refine x_iald hx hb hK hB h69 dX8_runs_213 ?_
    obtain ⟨rfl, rfl⟩ := hs_ri hf
    exact hs_iret hx hb hr hlk hB hS dX8_runs_214
set_option maxRecDepth 100000 in
set_option maxHeartbeats 4000000 in
theorem wX8_runs_48b (fu : Nat) (C : hs_Cx p s m args meth c X A yX8_runs cX8_runs 7 (some .int) wsX8_runs) (hem : ad hs_em = X.2.2.1.2.2.2)  (k48 : hs_T → Nat → Int32 → Int32 → Int32 → Int32 → Option (Int32 × hs_T)) (hk48 : ∀ (σ : hs_T) (x0 : Nat) (x1 : Int32) (x2 : Int32) (x3 : Int32) (x4 : Int32) (H : Heap) (locs : List Loc) (ls : Array Slot), k48 σ x0 x1 x2 x3 x4 = some (r, τ) → hs_H X.1 X.2.1 ad A σ H → va_S A s.heap H locs → lv_has ls 7 [(0, .ref (ad x0)), (1, .int x1), (2, .int x2), (3, .int x3), (4, .int x4)] → W p l e rmX8_runs s m args below meth c H locs 0 0 (MQ below (hs_Q0 hs_tvi X ad A r τ) args s 0 0 A) (F0 m 48 ls [])) {H : Heap} {locs : List Loc} {ls : Array Slot} (σ : hs_T) (x0 : Nat) (x1 : Int32) (x2 : Int32) (x3 : Int32) (x4 : Int32) (hf : fX8_runs_48b fu  k48 σ x0 x1 x2 x3 x4 = some (r, τ)) (hB : hs_H X.1 X.2.1 ad A σ H) (hS : va_S A s.heap H locs) (hl : lv_has ls 7 [(0, .ref (ad x0)), (1, .int x1), (2, .int x2), (3, .int x3), (4, .int x4)]) : W p l e rmX8_runs s m args below meth c H locs 0 0 (MQ below (hs_Q0 hs_tvi X ad A r τ) args s 0 0 A) (F0 m 48 ls []) := by
  obtain ⟨hx, hb, hml, hr, hts, hown, hlk, hnm, hV, hA0, hA⟩ := id C
  have hown : s.vm.findClass RX8 = some m.cls := hown
  have hK := hV.1
  have hNw := hV.2.1
  unfold fX8_runs_48b at hf
  refine lv_aload_n hx hb dX8_runs_48 rfl (lv_at hl 0 rfl) ?_
  obtain ⟨v7, h6, hf⟩ := hs_bi hf
  refine x_getI hx hb hts inX8_runs_X8 hown hK hB (by decide) rfl (k := 20) (by decide) rfl h6 (hts _ lkX8_runs_1) (fun _ h9 => h9) dX8_runs_49 ?_
  refine lv_aload_n hx hb dX8_runs_52 rfl (lv_at hl 0 rfl) ?_
  obtain ⟨n9, h8, hf⟩ := hs_bi hf
  refine x_getN hx hb hts inX8_runs_X8 hown hK hB (by decide) rfl (k := 5) (by decide) rfl h8 (hts _ lkX8_runs_2) (fun _ h9 => h9) dX8_runs_53 ?_
  refine lv_iload_n hx hb dX8_runs_56 rfl (lv_at hl 1 rfl) ?_
  obtain ⟨v10, h11, hf⟩ := hs_bi hf
  refine x_iald hx hb hK hB h11 dX8_runs_57 ?_
  refine lv_icmp_ge (tgt := 252) hx hb dX8_runs_58 (by decide) (fun h12 => ?_) (fun h12 => ?_)
  · have hf := hs_tt h12 hf
    refine lv_sipush (v := 10000) hx hb dX8_runs_252 (by decide) ?_
    obtain ⟨rfl, rfl⟩ := hs_ri hf
    exact hs_iret hx hb hr hlk hB hS dX8_runs_255
  · have hf := hs_ff h12 hf
    refine lv_iload hx hb dX8_runs_61 (lv_at hl 4 rfl) ?_
    refine lv_aload_n hx hb dX8_runs_63 rfl (lv_at hl 0 rfl) ?_
    obtain ⟨n14, h13, hf⟩ := hs_bi hf
    refine x_getN hx hb hts inX8_runs_X8 hown hK hB (by decide) rfl (k := 17) (by decide) rfl h13 (hts _ lkX8_runs_3) (fun _ h9 => h9) dX8_runs_64 ?_
    refine lv_iconst (v := 0) hx hb dX8_runs_67 (by decide) ?_
    obtain ⟨v15, h16, hf⟩ := hs_bi hf
    refine x_iald hx hb hK hB h16 dX8_runs_68 ?_
    refine lv_icmp_ne (tgt := 86) hx hb dX8_runs_69 (by decide) (fun h17 => ?_) (fun h17 => ?_)
    · have hf := hs_ff h17 hf
      refine lv_iinc (v := (x4 + 1)) (lv' := [(4, .int (x4 + 1)), (0, .ref (ad x0)), (1, .int x1), (2, .int x2), (3, .int x3)]) hx hb dX8_runs_86 hl (k := 4) rfl rfl (by decide) rfl (fun ls hl => ?_)
      refine lv_aload_n hx hb dX8_runs_89 rfl (lv_at hl 1 rfl) ?_
      refine lv_aload_n hx hb dX8_runs_90 rfl (lv_at hl 1 rfl) ?_
      obtain ⟨v19, h18, hf⟩ := hs_bi hf
      refine x_getI hx hb hts inX8_runs_X8 hown hK hB (by decide) rfl (k := 21) (by decide) rfl h18 (hts _ lkX8_runs_4) (fun _ h9 => h9) dX8_runs_91 ?_
      refine lv_iconst (v := 1) hx hb dX8_runs_94 (by decide) ?_
      refine lv_iadd hx hb dX8_runs_95 ?_
      refine lv_ldc hx hb hown (hts _ lkX8_runs_5) dX8_runs_96 ?_
      refine lv_irem hx hb dX8_runs_98 (by decide) ?_
      obtain ⟨σ21, h20, hf⟩ := hs_bi hf
      refine x_putI hx hb hts inX8_runs_X8 tyX8_ok nmX8 hown hK hB hS (by decide) rfl (k := 21) (by decide) rfl h20 (hts _ lkX8_runs_4) (fun _ h9 => h9) rfl (by decide +kernel) dX8_runs_99 (fun H locs hB hS => ?_)
      refine lv_aload_n hx hb dX8_runs_102 rfl (lv_at hl 1 rfl) ?_
      obtain ⟨n23, h22, hf⟩ := hs_bi hf
      refine x_getN hx hb hts inX8_runs_X8 hown hK hB (by decide) rfl (k := 3) (by decide) rfl h22 (hts _ lkX8_runs_6) (fun _ h9 => h9) dX8_runs_103 ?_
      refine lv_bipush (v := 24) hx hb dX8_runs_106 (by decide) ?_
      refine lv_iload_n hx hb dX8_runs_108 rfl (lv_at hl 2 rfl) ?_
      refine lv_imul hx hb dX8_runs_109 ?_
      refine lv_aload_n hx hb dX8_runs_110 rfl (lv_at hl 1 rfl) ?_
      obtain ⟨v25, h24, hf⟩ := hs_bi hf
      refine x_getI hx hb hts inX8_runs_X8 hown hK hB (by decide) rfl (k := 20) (by decide) rfl h24 (hts _ lkX8_runs_1) (fun _ h9 => h9) dX8_runs_111 ?_
      refine lv_iadd hx hb dX8_runs_114 ?_
      obtain ⟨v26, h27, hf⟩ := hs_bi hf
      refine x_iald hx hb hK hB h27 dX8_runs_115 ?_
      refine lv_istore (lv' := [(5, .int v26), (4, .int (x4 + 1)), (0, .ref (ad x0)), (1, .int x1), (2, .int x2), (3, .int x3)]) hx hb dX8_runs_116 hl (by decide) rfl (fun ls hl => ?_)
      refine lv_aload_n hx hb dX8_runs_118 rfl (lv_at hl 2 rfl) ?_
      obtain ⟨v29, h28, hf⟩ := hs_bi hf
      refine x_getI hx hb hts inX8_runs_X8 hown hK hB (by decide) rfl (k := 19) (by decide) rfl h28 (hts _ lkX8_runs_0) (fun _ h9 => h9) dX8_runs_119 ?_
      refine lv_iload hx hb dX8_runs_122 (lv_at hl 0 rfl) ?_
      obtain ⟨v32, σ31, h30, hf⟩ := hs_b2i hf
      refine hs_call0 (va_runS (As := [.int v26]) (rest := [.int v29]) ⟨hx, hb, hml, hown, hts⟩ (ctX8_needs l fu σ21 v26 X ad H.size _ _ h30) (va_cwS 1 hts gX8_runs_X8_needs rfl rfl rfl (by decide +kernel) ⟨Nat.le_of_ble_eq_true rfl, Nat.le_of_ble_eq_true rfl⟩) (hs_pre hV hB hS hA0 hA hem) rfl rfl hl.1 rfl (lv_room (Nat.le_of_ble_eq_true rfl)) dX8_runs_124 ⟨Nat.le_of_ble_eq_true rfl, Nat.le_of_ble_eq_true rfl⟩) hB hS hA rfl (fun H locs hB hS => ?_)
      refine lv_icmp_lt (tgt := 147) hx hb dX8_runs_127 (by decide) (fun h33 => ?_) (fun h33 => ?_)
      · have hf := hs_tt h33 hf
        refine lv_iconst (v := 0) hx hb dX8_runs_147 (by decide) ?_
        refine lv_istore (lv' := [(6, .int 0), (5, .int v26), (4, .int (x4 + 1)), (0, .ref (ad x0)), (1, .int x1), (2, .int x2), (3, .int x3)]) hx hb dX8_runs_148 hl (by decide) rfl (fun ls hl => ?_)
        exact wX8_runs_150 fu C hem σ31 x0 x1 0 hf hB hS (lv_sub hl [3, 4, 0] rfl)
      · have hf := hs_ff h33 hf
        refine lv_iload hx hb dX8_runs_130 (lv_at hl 0 rfl) ?_
        obtain ⟨v51, σ50, h49, hf⟩ := hs_b2i hf
        refine hs_call0 (va_runS (As := [.int v26]) (rest := []) ⟨hx, hb, hml, hown, hts⟩ (ctX8_isPush l fu σ31 v26 X ad H.size _ _ h49) (va_cwS 1 hts gX8_runs_X8_isPush rfl rfl rfl (by decide +kernel) ⟨Nat.le_of_ble_eq_true rfl, Nat.le_of_ble_eq_true rfl⟩) (hs_pre hV hB hS hA0 hA hem) rfl rfl hl.1 rfl (lv_room (Nat.le_of_ble_eq_true rfl)) dX8_runs_132 ⟨Nat.le_of_ble_eq_true rfl, Nat.le_of_ble_eq_true rfl⟩) hB hS hA rfl (fun H locs hB hS => ?_)
        refine lv_if_eq (tgt := 196) hx hb dX8_runs_135 (by decide) (fun h52 => ?_) (fun h52 => ?_)
        · have hf := hs_tt h52 hf
          exact wX8_runs_196 fu C hem k48 hk48 σ50 x0 x1 x2 x3 (x4 + 1) v26 hf hB hS (lv_sub hl [2, 3, 4, 5, 1, 0] rfl)
        · have hf := hs_ff h52 hf
          refine lv_aload_n hx hb dX8_runs_138 rfl (lv_at hl 2 rfl) ?_
          obtain ⟨v71, h70, hf⟩ := hs_bi hf
          refine x_getI hx hb hts inX8_runs_X8 hown hK hB (by decide) rfl (k := 19) (by decide) rfl h70 (hts _ lkX8_runs_0) (fun _ h9 => h9) dX8_runs_139 ?_
          refine lv_bipush (v := 8) hx hb dX8_runs_142 (by decide) ?_
          refine lv_icmp_ne (tgt := 196) hx hb dX8_runs_144 (by decide) (fun h72 => ?_) (fun h72 => ?_)
          · have hf := hs_ff h72 hf
            exact wX8_runs_196 fu C hem k48 hk48 σ50 x0 x1 x2 x3 (x4 + 1) v26 hf hB hS (lv_sub hl [2, 3, 4, 5, 1, 0] rfl)
          · have hf := hs_tt h72 hf
            refine lv_iconst (v := 0) hx hb dX8_runs_147 (by decide) ?_
            refine lv_istore (lv' := [(6, .int 0), (5, .int v26), (4, .int (x4 + 1)), (0, .ref (ad x0)), (1, .int x1), (2, .int x2), (3, .int x3)]) hx hb dX8_runs_148 hl (by decide) rfl (fun ls hl => ?_)
            exact wX8_runs_150 fu C hem σ50 x0 x1 0 hf hB hS (lv_sub hl [3, 4, 0] rfl)
    · have hf := hs_tt h17 hf
      refine lv_aload_n hx hb dX8_runs_72 rfl (lv_at hl 0 rfl) ?_
      obtain ⟨n74, h73, hf⟩ := hs_bi hf
      refine x_getN hx hb hts inX8_runs_X8 hown hK hB (by decide) rfl (k := 15) (by decide) rfl h73 (hts _ lkX8_runs_12) (fun _ h9 => h9) dX8_runs_73 ?_
      refine lv_iload_n hx hb dX8_runs_76 rfl (lv_at hl 1 rfl) ?_
      refine lv_dup2_11 hx hb dX8_runs_77 rfl rfl ?_
      obtain ⟨v75, h76, hf⟩ := hs_bi hf
      refine x_iald hx hb hK hB h76 dX8_runs_78 ?_
      refine lv_iconst (v := 1) hx hb dX8_runs_79 (by decide) ?_
      refine lv_iadd hx hb dX8_runs_80 ?_
      obtain ⟨σ77, h78, hf⟩ := hs_bi hf
      refine x_iast hx hb hK hB hS h78 dX8_runs_81 (fun H locs hB hS => ?_)
      refine lv_sipush (v := 10001) hx hb dX8_runs_82 (by decide) ?_
      obtain ⟨rfl, rfl⟩ := hs_ri hf
      exact hs_iret hx hb hr hlk hB hS dX8_runs_85
set_option maxRecDepth 100000 in
set_option maxHeartbeats 4000000 in
theorem wX8_runs_48 (fu : Nat) (C : hs_Cx p s m args meth c X A yX8_runs cX8_runs 7 (some .int) wsX8_runs) (hem : ad hs_em = X.2.2.1.2.2.2)  {H : Heap} {locs : List Loc} {ls : Array Slot} (σ : hs_T) (x0 : Nat) (x1 : Int32) (x2 : Int32) (x3 : Int32) (x4 : Int32) (hf : fX8_runs_48 fu  σ x0 x1 x2 x3 x4 = some (r, τ)) (hB : hs_H X.1 X.2.1 ad A σ H) (hS : va_S A s.heap H locs) (hl : lv_has ls 7 [(0, .ref (ad x0)), (1, .int x1), (2, .int x2), (3, .int x3), (4, .int x4)]) : W p l e rmX8_runs s m args below meth c H locs 0 0 (MQ below (hs_Q0 hs_tvi X ad A r τ) args s 0 0 A) (F0 m 48 ls []) := by
  unfold fX8_runs_48 at hf
  exact hs_lp_i (P := fun a => ∀ (H : Heap) (locs : List Loc) (ls : Array Slot), hs_H X.1 X.2.1 ad A a.1 H → va_S A s.heap H locs → lv_has ls 7 [(0, .ref (ad a.2.1)), (1, .int a.2.2.1), (2, .int a.2.2.2.1), (3, .int a.2.2.2.2.1), (4, .int a.2.2.2.2.2)] → W p l e rmX8_runs s m args below meth c H locs 0 0 (MQ below (hs_Q0 hs_tvi X ad A r τ) args s 0 0 A) (F0 m 48 ls [])) (fun k a hk hf H locs ls hB hS hl => wX8_runs_48b fu C hem  _ (fun σ x0 x1 x2 x3 x4 H locs ls hf hB hS hl => hk (σ, x0, x1, x2, x3, x4) hf H locs ls hB hS hl) a.1 a.2.1 a.2.2.1 a.2.2.2.1 a.2.2.2.2.1 a.2.2.2.2.2 hf hB hS hl) fu (σ, x0, x1, x2, x3, x4) hf H locs ls hB hS hl
set_option maxRecDepth 100000 in
set_option maxHeartbeats 4000000 in
theorem wX8_runs_13b (fu : Nat) (C : hs_Cx p s m args meth c X A yX8_runs cX8_runs 7 (some .int) wsX8_runs) (hem : ad hs_em = X.2.2.1.2.2.2)  (k13 : hs_T → Nat → Int32 → Int32 → Int32 → Int32 → Option (Int32 × hs_T)) (hk13 : ∀ (σ : hs_T) (x0 : Nat) (x1 : Int32) (x2 : Int32) (x3 : Int32) (x4 : Int32) (H : Heap) (locs : List Loc) (ls : Array Slot), k13 σ x0 x1 x2 x3 x4 = some (r, τ) → hs_H X.1 X.2.1 ad A σ H → va_S A s.heap H locs → lv_has ls 7 [(0, .ref (ad x0)), (1, .int x1), (2, .int x2), (3, .int x3), (4, .int x4)] → W p l e rmX8_runs s m args below meth c H locs 0 0 (MQ below (hs_Q0 hs_tvi X ad A r τ) args s 0 0 A) (F0 m 13 ls [])) {H : Heap} {locs : List Loc} {ls : Array Slot} (σ : hs_T) (x0 : Nat) (x1 : Int32) (x2 : Int32) (x3 : Int32) (x4 : Int32) (hf : fX8_runs_13b fu  k13 σ x0 x1 x2 x3 x4 = some (r, τ)) (hB : hs_H X.1 X.2.1 ad A σ H) (hS : va_S A s.heap H locs) (hl : lv_has ls 7 [(0, .ref (ad x0)), (1, .int x1), (2, .int x2), (3, .int x3), (4, .int x4)]) : W p l e rmX8_runs s m args below meth c H locs 0 0 (MQ below (hs_Q0 hs_tvi X ad A r τ) args s 0 0 A) (F0 m 13 ls []) := by
  obtain ⟨hx, hb, hml, hr, hts, hown, hlk, hnm, hV, hA0, hA⟩ := id C
  have hown : s.vm.findClass RX8 = some m.cls := hown
  have hK := hV.1
  have hNw := hV.2.1
  unfold fX8_runs_13b at hf
  refine lv_iload hx hb dX8_runs_13 (lv_at hl 4 rfl) ?_
  refine lv_bipush (v := 8) hx hb dX8_runs_15 (by decide) ?_
  refine lv_icmp_ge (tgt := 45) hx hb dX8_runs_17 (by decide) (fun h5 => ?_) (fun h5 => ?_)
  · have hf := hs_tt h5 hf
    refine lv_iconst (v := 0) hx hb dX8_runs_45 (by decide) ?_
    refine lv_istore (lv' := [(4, .int 0), (0, .ref (ad x0)), (1, .int x1), (2, .int x2), (3, .int x3)]) hx hb dX8_runs_46 hl (by decide) rfl (fun ls hl => ?_)
    exact wX8_runs_48 fu C hem σ x0 x1 x2 x3 0 hf hB hS (lv_sub hl [1, 2, 3, 4, 0] rfl)
  · have hf := hs_ff h5 hf
    refine lv_aload_n hx hb dX8_runs_20 rfl (lv_at hl 0 rfl) ?_
    obtain ⟨n80, h79, hf⟩ := hs_bi hf
    refine x_getN hx hb hts inX8_runs_X8 hown hK hB (by decide) rfl (k := 13) (by decide) rfl h79 (hts _ lkX8_runs_9) (fun _ h9 => h9) dX8_runs_21 ?_
    refine lv_iload hx hb dX8_runs_24 (lv_at hl 4 rfl) ?_
    refine lv_aload_n hx hb dX8_runs_26 rfl (lv_at hl 0 rfl) ?_
    obtain ⟨n82, h81, hf⟩ := hs_bi hf
    refine x_getN hx hb hts inX8_runs_X8 hown hK hB (by decide) rfl (k := 12) (by decide) rfl h81 (hts _ lkX8_runs_8) (fun _ h9 => h9) dX8_runs_27 ?_
    refine lv_bipush (v := 8) hx hb dX8_runs_30 (by decide) ?_
    refine lv_iload_n hx hb dX8_runs_32 rfl (lv_at hl 1 rfl) ?_
    refine lv_imul hx hb dX8_runs_33 ?_
    refine lv_iload hx hb dX8_runs_34 (lv_at hl 4 rfl) ?_
    refine lv_iadd hx hb dX8_runs_36 ?_
    obtain ⟨v83, h84, hf⟩ := hs_bi hf
    refine x_iald hx hb hK hB h84 dX8_runs_37 ?_
    obtain ⟨σ85, h86, hf⟩ := hs_bi hf
    refine x_iast hx hb hK hB hS h86 dX8_runs_38 (fun H locs hB hS => ?_)
    refine lv_iinc (v := (x4 + 1)) (lv' := [(4, .int (x4 + 1)), (0, .ref (ad x0)), (1, .int x1), (2, .int x2), (3, .int x3)]) hx hb dX8_runs_39 hl (k := 4) rfl rfl (by decide) rfl (fun ls hl => ?_)
    refine lv_goto (tgt := 13) hx hb dX8_runs_42 (by decide) ?_
    exact hk13 σ85 x0 x1 x2 x3 (x4 + 1) _ _ _ hf hB hS (lv_sub hl [1, 2, 3, 4, 0] rfl)
set_option maxRecDepth 100000 in
set_option maxHeartbeats 4000000 in
theorem wX8_runs_13 (fu : Nat) (C : hs_Cx p s m args meth c X A yX8_runs cX8_runs 7 (some .int) wsX8_runs) (hem : ad hs_em = X.2.2.1.2.2.2)  {H : Heap} {locs : List Loc} {ls : Array Slot} (σ : hs_T) (x0 : Nat) (x1 : Int32) (x2 : Int32) (x3 : Int32) (x4 : Int32) (hf : fX8_runs_13 fu  σ x0 x1 x2 x3 x4 = some (r, τ)) (hB : hs_H X.1 X.2.1 ad A σ H) (hS : va_S A s.heap H locs) (hl : lv_has ls 7 [(0, .ref (ad x0)), (1, .int x1), (2, .int x2), (3, .int x3), (4, .int x4)]) : W p l e rmX8_runs s m args below meth c H locs 0 0 (MQ below (hs_Q0 hs_tvi X ad A r τ) args s 0 0 A) (F0 m 13 ls []) := by
  unfold fX8_runs_13 at hf
  exact hs_lp_i (P := fun a => ∀ (H : Heap) (locs : List Loc) (ls : Array Slot), hs_H X.1 X.2.1 ad A a.1 H → va_S A s.heap H locs → lv_has ls 7 [(0, .ref (ad a.2.1)), (1, .int a.2.2.1), (2, .int a.2.2.2.1), (3, .int a.2.2.2.2.1), (4, .int a.2.2.2.2.2)] → W p l e rmX8_runs s m args below meth c H locs 0 0 (MQ below (hs_Q0 hs_tvi X ad A r τ) args s 0 0 A) (F0 m 13 ls [])) (fun k a hk hf H locs ls hB hS hl => wX8_runs_13b fu C hem  _ (fun σ x0 x1 x2 x3 x4 H locs ls hf hB hS hl => hk (σ, x0, x1, x2, x3, x4) hf H locs ls hB hS hl) a.1 a.2.1 a.2.2.1 a.2.2.2.1 a.2.2.2.2.1 a.2.2.2.2.2 hf hB hS hl) fu (σ, x0, x1, x2, x3, x4) hf H locs ls hB hS hl
set_option maxRecDepth 100000 in
set_option maxHeartbeats 4000000 in
theorem wX8_runs_e (fu : Nat) (C : hs_Cx p s m args meth c X A yX8_runs cX8_runs 7 (some .int) wsX8_runs) (hem : ad hs_em = X.2.2.1.2.2.2) {H : Heap} {locs : List Loc} {ls : Array Slot} (σ : hs_T) (o : Nat) (a1 : Int32) (a2 : Int32) (a3 : Int32) (hf : fX8_runs fu σ o a1 a2 a3 = some (r, τ)) (hB : hs_H X.1 X.2.1 ad A σ H) (hS : va_S A s.heap H locs) (hl : lv_has ls 7 [(0, .ref (ad o)), (1, .int a1), (2, .int a2), (3, .int a3)]) : W p l e rmX8_runs s m args below meth c H locs 0 0 (MQ below (hs_Q0 hs_tvi X ad A r τ) args s 0 0 A) (F0 m 0 ls []) := by
  obtain ⟨hx, hb, hml, hr, hts, hown, hlk, hnm, hV, hA0, hA⟩ := id C
  have hown : s.vm.findClass RX8 = some m.cls := hown
  have hK := hV.1
  have hNw := hV.2.1
  unfold fX8_runs at hf
  refine lv_aload_n hx hb dX8_runs_0 rfl (lv_at hl 0 rfl) ?_
  refine lv_iconst (v := 0) hx hb dX8_runs_1 (by decide) ?_
  obtain ⟨σ2, h1, hf⟩ := hs_bi hf
  refine x_putI hx hb hts inX8_runs_X8 tyX8_ok nmX8 hown hK hB hS (by decide) rfl (k := 19) (by decide) rfl h1 (hts _ lkX8_runs_0) (fun _ h9 => h9) rfl (by decide +kernel) dX8_runs_2 (fun H locs hB hS => ?_)
  refine lv_aload_n hx hb dX8_runs_5 rfl (lv_at hl 0 rfl) ?_
  refine lv_iconst (v := 0) hx hb dX8_runs_6 (by decide) ?_
  obtain ⟨σ4, h3, hf⟩ := hs_bi hf
  refine x_putI hx hb hts inX8_runs_X8 tyX8_ok nmX8 hown hK hB hS (by decide) rfl (k := 20) (by decide) rfl h3 (hts _ lkX8_runs_1) (fun _ h9 => h9) rfl (by decide +kernel) dX8_runs_7 (fun H locs hB hS => ?_)
  refine lv_iconst (v := 0) hx hb dX8_runs_10 (by decide) ?_
  refine lv_istore (lv' := [(4, .int 0), (0, .ref (ad o)), (1, .int a1), (2, .int a2), (3, .int a3)]) hx hb dX8_runs_11 hl (by decide) rfl (fun ls hl => ?_)
  exact wX8_runs_13 fu C hem σ4 o a1 a2 a3 0 hf hB hS (lv_sub hl [1, 2, 3, 4, 0] rfl)
end SX8_runs
set_option maxRecDepth 100000 in
theorem ctX8_runs (l : Launch) (fu : Nat) (σ : hs_T) (o : Nat) (a1 : Int32) (a2 : Int32) (a3 : Int32) : hs_C0 hs_tvi l yX8_runs wsX8_runs rmX8_runs (fun ad => [.ref (ad o), .int a1, .int a2, .int a3]) σ (fX8_runs fu σ o a1 a2 a3) := by
  intro X ad sz r τ hf
  refine hs_enter (cc := cX8_runs) (maxL := 7) (ret := (some .int)) (by decide) rfl (Nat.le_of_ble_eq_true rfl) ?_
  intro p e s m below meth c ls C hl hem hB hS hsz
  exact wX8_runs_e fu C hem σ o a1 a2 a3 hf hB hS hl
/-! ServiceGameModel.letter(IIIII)I -/
abbrev rmX8_letter : Room := { frames := 3, cells := 0, slots := 0, locals := 73 }
theorem inX8_letter_X8 : ∀ w ∈ wsX80, w ∈ wsX8_letter := fun _ h => List.mem_cons_of_mem _ (List.mem_append_right _ h)
theorem lkX8_letter_0 : Cond.constantLong RX8 166 (9999) ∈ wsX8_letter := by decide +kernel
theorem lkX8_letter_1 : Cond.fieldLink RX8 203 "ServiceGameModel" "letters" "I" ∈ wsX8_letter := by decide +kernel
theorem lkX8_letter_2 : Cond.fieldLink RX8 53 "ServiceGameModel" "letterTo" "[I" ∈ wsX8_letter := by decide +kernel
theorem lkX8_letter_3 : Cond.fieldLink RX8 56 "ServiceGameModel" "letterA" "[I" ∈ wsX8_letter := by decide +kernel
theorem lkX8_letter_4 : Cond.fieldLink RX8 59 "ServiceGameModel" "letterB" "[I" ∈ wsX8_letter := by decide +kernel
theorem lkX8_letter_5 : Cond.fieldLink RX8 206 "ServiceGameModel" "lettersAll" "I" ∈ wsX8_letter := by decide +kernel
def fX8_letter (fu : Nat) (σ : hs_T) (o : Nat) (a1 : Int32) (a2 : Int32) (a3 : Int32) (a4 : Int32) (a5 : Int32) : Option (Int32 × hs_T) :=
 (hs_ck σ 10 o).bind fun _ =>
 hs_b2 (fX8_isTeam fu σ o a1) fun v4 σ2 =>
 if v4 = 0 then
 (some ((-1), σ2))
 else
 ((hs_ck σ2 10 o).bind fun _ =>
 hs_b2 (fX8_isPlace fu σ2 o a2 a3) fun v9 σ7 =>
 if v9 = 0 then
 (some ((-1), σ7))
 else
 (hs_b2 (fX8_isIn fu σ7 a4.toInt64 0 9999) fun v13 σ12 =>
 if v13 = 0 then
 (some ((-2), σ12))
 else
 (hs_b2 (fX8_isIn fu σ12 a5.toInt64 0 9999) fun v17 σ16 =>
 if v17 = 0 then
 (some ((-2), σ16))
 else
 ((hs_gI σ16 10 o 28).bind fun v20 =>
 if v20 = 400 then
 (some ((-4), σ16))
 else
 ((hs_gN σ16 10 o 22).bind fun n23 =>
 (hs_gI σ16 10 o 28).bind fun v25 =>
 (hs_st σ16 11 n23 v25 ((3 * a2) + a3)).bind fun σ26 =>
 (hs_gN σ26 10 o 23).bind fun n29 =>
 (hs_gI σ26 10 o 28).bind fun v31 =>
 (hs_st σ26 11 n29 v31 a4).bind fun σ32 =>
 (hs_gN σ32 10 o 24).bind fun n35 =>
 (hs_gI σ32 10 o 28).bind fun v37 =>
 (hs_st σ32 11 n35 v37 a5).bind fun σ38 =>
 (hs_gI σ38 10 o 28).bind fun v41 =>
 (hs_pI σ38 10 o 28 (v41 + 1)).bind fun σ43 =>
 (hs_gI σ43 10 o 30).bind fun v45 =>
 (hs_pI σ43 10 o 30 (v45 + 1)).bind fun σ47 =>
 (hs_ck σ47 10 o).bind fun _ =>
 hs_b2 (fX8_runs fu σ47 o ((3 * a2) + a3) a4 a5) fun v51 σ49 =>
 some (v51, σ49))))))
section SX8_letter
variable {p : Program} {l : Launch} {e : Env} {s : State} {m : MethodId} {args : Array Value} {below : List Frame} {meth : Method} {c : Code} {X : hs_X} {ad : Nat → Nat} {A : Nat → Prop} {r : Int32} {τ : hs_T}
set_option maxRecDepth 100000 in
set_option maxHeartbeats 4000000 in
theorem wX8_letter_e (fu : Nat) (C : hs_Cx p s m args meth c X A yX8_letter cX8_letter 6 (some .int) wsX8_letter) (hem : ad hs_em = X.2.2.1.2.2.2) {H : Heap} {locs : List Loc} {ls : Array Slot} (σ : hs_T) (o : Nat) (a1 : Int32) (a2 : Int32) (a3 : Int32) (a4 : Int32) (a5 : Int32) (hf : fX8_letter fu σ o a1 a2 a3 a4 a5 = some (r, τ)) (hB : hs_H X.1 X.2.1 ad A σ H) (hS : va_S A s.heap H locs) (hl : lv_has ls 6 [(0, .ref (ad o)), (1, .int a1), (2, .int a2), (3, .int a3), (4, .int a4), (5, .int a5)]) : W p l e rmX8_letter s m args below meth c H locs 0 0 (MQ below (hs_Q0 hs_tvi X ad A r τ) args s 0 0 A) (F0 m 0 ls []) := by
  obtain ⟨hx, hb, hml, hr, hts, hown, hlk, hnm, hV, hA0, hA⟩ := id C
  have hown : s.vm.findClass RX8 = some m.cls := hown
  have hK := hV.1
  have hNw := hV.2.1
  unfold fX8_letter at hf
  refine lv_aload_n hx hb dX8_letter_0 rfl (lv_at hl 0 rfl) ?_
  refine lv_iload_n hx hb dX8_letter_1 rfl (lv_at hl 1 rfl) ?_
  obtain ⟨_, h3, hf⟩ := hs_bi hf
  obtain ⟨v4, σ2, h1, hf⟩ := hs_b2i hf
  refine hs_call0 (va_runV (As := [.int a1]) (rest := []) ⟨hx, hb, hml, hown, hts⟩ (ctX8_isTeam l fu σ o a1 X ad H.size _ _ h1) (cwV 1 hts gX8_letter_X8_isTeam rfl rfl rfl (by decide +kernel) ⟨Nat.le_of_ble_eq_true rfl, Nat.le_of_ble_eq_true rfl⟩) (hs_preV (hs_recv hK hB (hs_ck_i h3) (by decide) rfl) hV hB hS hA0 hA hem) rfl rfl hl.1 rfl (lv_room (Nat.le_of_ble_eq_true rfl)) dX8_letter_2 ⟨Nat.le_of_ble_eq_true rfl, Nat.le_of_ble_eq_true rfl⟩) hB hS hA rfl (fun H locs hB hS => ?_)
  refine lv_if_eq (tgt := 17) hx hb dX8_letter_5 (by decide) (fun h5 => ?_) (fun h5 => ?_)
  · have hf := hs_tt h5 hf
    refine lv_iconst (v := (-1)) hx hb dX8_letter_17 (by decide) ?_
    obtain ⟨rfl, rfl⟩ := hs_ri hf
    exact hs_iret hx hb hr hlk hB hS dX8_letter_18
  · have hf := hs_ff h5 hf
    refine lv_aload_n hx hb dX8_letter_8 rfl (lv_at hl 0 rfl) ?_
    refine lv_iload_n hx hb dX8_letter_9 rfl (lv_at hl 2 rfl) ?_
    refine lv_iload_n hx hb dX8_letter_10 rfl (lv_at hl 3 rfl) ?_
    obtain ⟨_, h8, hf⟩ := hs_bi hf
    obtain ⟨v9, σ7, h6, hf⟩ := hs_b2i hf
    refine hs_call0 (va_runV (As := [.int a2, .int a3]) (rest := []) ⟨hx, hb, hml, hown, hts⟩ (ctX8_isPlace l fu σ2 o a2 a3 X ad H.size _ _ h6) (cwV 2 hts gX8_letter_X8_isPlace rfl rfl rfl (by decide +kernel) ⟨Nat.le_of_ble_eq_true rfl, Nat.le_of_ble_eq_true rfl⟩) (hs_preV (hs_recv hK hB (hs_ck_i h8) (by decide) rfl) hV hB hS hA0 hA hem) rfl rfl hl.1 rfl (lv_room (Nat.le_of_ble_eq_true rfl)) dX8_letter_11 ⟨Nat.le_of_ble_eq_true rfl, Nat.le_of_ble_eq_true rfl⟩) hB hS hA rfl (fun H locs hB hS => ?_)
    refine lv_if_ne (tgt := 19) hx hb dX8_letter_14 (by decide) (fun h10 => ?_) (fun h10 => ?_)
    · have hf := hs_ff h10 hf
      refine lv_iload hx hb dX8_letter_19 (lv_at hl 4 rfl) ?_
      refine lv_i2l hx hb dX8_letter_21 rfl ?_
      refine lv_lconst (v := 0) hx hb dX8_letter_22 (by decide) ?_
      refine lv_ldc2 hx hb hown (hts _ lkX8_letter_0) dX8_letter_23 ?_
      obtain ⟨v13, σ12, h11, hf⟩ := hs_b2i hf
      refine hs_call0 (va_runS (As := [.long a4.toInt64, .long 0, .long 9999]) (rest := []) ⟨hx, hb, hml, hown, hts⟩ (ctX8_isIn l fu σ7 a4.toInt64 0 9999 X ad H.size _ _ h11) (va_cwS 3 hts gX8_letter_X8_isIn rfl rfl rfl (by decide +kernel) ⟨Nat.le_of_ble_eq_true rfl, Nat.le_of_ble_eq_true rfl⟩) (hs_pre hV hB hS hA0 hA hem) rfl rfl hl.1 rfl (lv_room (Nat.le_of_ble_eq_true rfl)) dX8_letter_26 ⟨Nat.le_of_ble_eq_true rfl, Nat.le_of_ble_eq_true rfl⟩) hB hS hA rfl (fun H locs hB hS => ?_)
      refine lv_if_eq (tgt := 45) hx hb dX8_letter_29 (by decide) (fun h14 => ?_) (fun h14 => ?_)
      · have hf := hs_tt h14 hf
        refine lv_bipush (v := (-2)) hx hb dX8_letter_45 (by decide) ?_
        obtain ⟨rfl, rfl⟩ := hs_ri hf
        exact hs_iret hx hb hr hlk hB hS dX8_letter_47
      · have hf := hs_ff h14 hf
        refine lv_iload hx hb dX8_letter_32 (lv_at hl 5 rfl) ?_
        refine lv_i2l hx hb dX8_letter_34 rfl ?_
        refine lv_lconst (v := 0) hx hb dX8_letter_35 (by decide) ?_
        refine lv_ldc2 hx hb hown (hts _ lkX8_letter_0) dX8_letter_36 ?_
        obtain ⟨v17, σ16, h15, hf⟩ := hs_b2i hf
        refine hs_call0 (va_runS (As := [.long a5.toInt64, .long 0, .long 9999]) (rest := []) ⟨hx, hb, hml, hown, hts⟩ (ctX8_isIn l fu σ12 a5.toInt64 0 9999 X ad H.size _ _ h15) (va_cwS 3 hts gX8_letter_X8_isIn rfl rfl rfl (by decide +kernel) ⟨Nat.le_of_ble_eq_true rfl, Nat.le_of_ble_eq_true rfl⟩) (hs_pre hV hB hS hA0 hA hem) rfl rfl hl.1 rfl (lv_room (Nat.le_of_ble_eq_true rfl)) dX8_letter_39 ⟨Nat.le_of_ble_eq_true rfl, Nat.le_of_ble_eq_true rfl⟩) hB hS hA rfl (fun H locs hB hS => ?_)
        refine lv_if_ne (tgt := 48) hx hb dX8_letter_42 (by decide) (fun h18 => ?_) (fun h18 => ?_)
        · have hf := hs_ff h18 hf
          refine lv_aload_n hx hb dX8_letter_48 rfl (lv_at hl 0 rfl) ?_
          obtain ⟨v20, h19, hf⟩ := hs_bi hf
          refine x_getI hx hb hts inX8_letter_X8 hown hK hB (by decide) rfl (k := 28) (by decide) rfl h19 (hts _ lkX8_letter_1) (fun _ h9 => h9) dX8_letter_49 ?_
          refine lv_sipush (v := 400) hx hb dX8_letter_52 (by decide) ?_
          refine lv_icmp_ne (tgt := 61) hx hb dX8_letter_55 (by decide) (fun h21 => ?_) (fun h21 => ?_)
          · have hf := hs_ff h21 hf
            refine lv_aload_n hx hb dX8_letter_61 rfl (lv_at hl 0 rfl) ?_
            obtain ⟨n23, h22, hf⟩ := hs_bi hf
            refine x_getN hx hb hts inX8_letter_X8 hown hK hB (by decide) rfl (k := 22) (by decide) rfl h22 (hts _ lkX8_letter_2) (fun _ h9 => h9) dX8_letter_62 ?_
            refine lv_aload_n hx hb dX8_letter_65 rfl (lv_at hl 0 rfl) ?_
            obtain ⟨v25, h24, hf⟩ := hs_bi hf
            refine x_getI hx hb hts inX8_letter_X8 hown hK hB (by decide) rfl (k := 28) (by decide) rfl h24 (hts _ lkX8_letter_1) (fun _ h9 => h9) dX8_letter_66 ?_
            refine lv_iconst (v := 3) hx hb dX8_letter_69 (by decide) ?_
            refine lv_iload_n hx hb dX8_letter_70 rfl (lv_at hl 2 rfl) ?_
            refine lv_imul hx hb dX8_letter_71 ?_
            refine lv_iload_n hx hb dX8_letter_72 rfl (lv_at hl 3 rfl) ?_
            refine lv_iadd hx hb dX8_letter_73 ?_
            obtain ⟨σ26, h27, hf⟩ := hs_bi hf
            refine x_iast hx hb hK hB hS h27 dX8_letter_74 (fun H locs hB hS => ?_)
            refine lv_aload_n hx hb dX8_letter_75 rfl (lv_at hl 0 rfl) ?_
            obtain ⟨n29, h28, hf⟩ := hs_bi hf
            refine x_getN hx hb hts inX8_letter_X8 hown hK hB (by decide) rfl (k := 23) (by decide) rfl h28 (hts _ lkX8_letter_3) (fun _ h9 => h9) dX8_letter_76 ?_
            refine lv_aload_n hx hb dX8_letter_79 rfl (lv_at hl 0 rfl) ?_
            obtain ⟨v31, h30, hf⟩ := hs_bi hf
            refine x_getI hx hb hts inX8_letter_X8 hown hK hB (by decide) rfl (k := 28) (by decide) rfl h30 (hts _ lkX8_letter_1) (fun _ h9 => h9) dX8_letter_80 ?_
            refine lv_iload hx hb dX8_letter_83 (lv_at hl 4 rfl) ?_
            obtain ⟨σ32, h33, hf⟩ := hs_bi hf
            refine x_iast hx hb hK hB hS h33 dX8_letter_85 (fun H locs hB hS => ?_)
            refine lv_aload_n hx hb dX8_letter_86 rfl (lv_at hl 0 rfl) ?_
            obtain ⟨n35, h34, hf⟩ := hs_bi hf
            refine x_getN hx hb hts inX8_letter_X8 hown hK hB (by decide) rfl (k := 24) (by decide) rfl h34 (hts _ lkX8_letter_4) (fun _ h9 => h9) dX8_letter_87 ?_
            refine lv_aload_n hx hb dX8_letter_90 rfl (lv_at hl 0 rfl) ?_
            obtain ⟨v37, h36, hf⟩ := hs_bi hf
            refine x_getI hx hb hts inX8_letter_X8 hown hK hB (by decide) rfl (k := 28) (by decide) rfl h36 (hts _ lkX8_letter_1) (fun _ h9 => h9) dX8_letter_91 ?_
            refine lv_iload hx hb dX8_letter_94 (lv_at hl 5 rfl) ?_
            obtain ⟨σ38, h39, hf⟩ := hs_bi hf
            refine x_iast hx hb hK hB hS h39 dX8_letter_96 (fun H locs hB hS => ?_)
            refine lv_aload_n hx hb dX8_letter_97 rfl (lv_at hl 0 rfl) ?_
            refine lv_dup hx hb dX8_letter_98 rfl ?_
            obtain ⟨v41, h40, hf⟩ := hs_bi hf
            refine x_getI hx hb hts inX8_letter_X8 hown hK hB (by decide) rfl (k := 28) (by decide) rfl h40 (hts _ lkX8_letter_1) (fun _ h9 => h9) dX8_letter_99 ?_
            refine lv_iconst (v := 1) hx hb dX8_letter_102 (by decide) ?_
            refine lv_iadd hx hb dX8_letter_103 ?_
            obtain ⟨σ43, h42, hf⟩ := hs_bi hf
            refine x_putI hx hb hts inX8_letter_X8 tyX8_ok nmX8 hown hK hB hS (by decide) rfl (k := 28) (by decide) rfl h42 (hts _ lkX8_letter_1) (fun _ h9 => h9) rfl (by decide +kernel) dX8_letter_104 (fun H locs hB hS => ?_)
            refine lv_aload_n hx hb dX8_letter_107 rfl (lv_at hl 0 rfl) ?_
            refine lv_dup hx hb dX8_letter_108 rfl ?_
            obtain ⟨v45, h44, hf⟩ := hs_bi hf
            refine x_getI hx hb hts inX8_letter_X8 hown hK hB (by decide) rfl (k := 30) (by decide) rfl h44 (hts _ lkX8_letter_5) (fun _ h9 => h9) dX8_letter_109 ?_
            refine lv_iconst (v := 1) hx hb dX8_letter_112 (by decide) ?_
            refine lv_iadd hx hb dX8_letter_113 ?_
            obtain ⟨σ47, h46, hf⟩ := hs_bi hf
            refine x_putI hx hb hts inX8_letter_X8 tyX8_ok nmX8 hown hK hB hS (by decide) rfl (k := 30) (by decide) rfl h46 (hts _ lkX8_letter_5) (fun _ h9 => h9) rfl (by decide +kernel) dX8_letter_114 (fun H locs hB hS => ?_)
            refine lv_aload_n hx hb dX8_letter_117 rfl (lv_at hl 0 rfl) ?_
            refine lv_iconst (v := 3) hx hb dX8_letter_118 (by decide) ?_
            refine lv_iload_n hx hb dX8_letter_119 rfl (lv_at hl 2 rfl) ?_
            refine lv_imul hx hb dX8_letter_120 ?_
            refine lv_iload_n hx hb dX8_letter_121 rfl (lv_at hl 3 rfl) ?_
            refine lv_iadd hx hb dX8_letter_122 ?_
            refine lv_iload hx hb dX8_letter_123 (lv_at hl 4 rfl) ?_
            refine lv_iload hx hb dX8_letter_125 (lv_at hl 5 rfl) ?_
            obtain ⟨_, h50, hf⟩ := hs_bi hf
            obtain ⟨v51, σ49, h48, hf⟩ := hs_b2i hf
            refine hs_call0 (va_runV (As := [.int ((3 * a2) + a3), .int a4, .int a5]) (rest := []) ⟨hx, hb, hml, hown, hts⟩ (ctX8_runs l fu σ47 o ((3 * a2) + a3) a4 a5 X ad H.size _ _ h48) (cwV 3 hts gX8_letter_X8_runs rfl rfl rfl (by decide +kernel) ⟨Nat.le_of_ble_eq_true rfl, Nat.le_of_ble_eq_true rfl⟩) (hs_preV (hs_recv hK hB (hs_ck_i h50) (by decide) rfl) hV hB hS hA0 hA hem) rfl rfl hl.1 rfl (lv_room (Nat.le_of_ble_eq_true rfl)) dX8_letter_127 ⟨Nat.le_of_ble_eq_true rfl, Nat.le_of_ble_eq_true rfl⟩) hB hS hA rfl (fun H locs hB hS => ?_)
            obtain ⟨rfl, rfl⟩ := hs_ri hf
            exact hs_iret hx hb hr hlk hB hS dX8_letter_130
          · have hf := hs_tt h21 hf
            refine lv_bipush (v := (-4)) hx hb dX8_letter_58 (by decide) ?_
            obtain ⟨rfl, rfl⟩ := hs_ri hf
            exact hs_iret hx hb hr hlk hB hS dX8_letter_60
        · have hf := hs_tt h18 hf
          refine lv_bipush (v := (-2)) hx hb dX8_letter_45 (by decide) ?_
          obtain ⟨rfl, rfl⟩ := hs_ri hf
          exact hs_iret hx hb hr hlk hB hS dX8_letter_47
    · have hf := hs_tt h10 hf
      refine lv_iconst (v := (-1)) hx hb dX8_letter_17 (by decide) ?_
      obtain ⟨rfl, rfl⟩ := hs_ri hf
      exact hs_iret hx hb hr hlk hB hS dX8_letter_18
end SX8_letter
set_option maxRecDepth 100000 in
theorem ctX8_letter (l : Launch) (fu : Nat) (σ : hs_T) (o : Nat) (a1 : Int32) (a2 : Int32) (a3 : Int32) (a4 : Int32) (a5 : Int32) : hs_C0 hs_tvi l yX8_letter wsX8_letter rmX8_letter (fun ad => [.ref (ad o), .int a1, .int a2, .int a3, .int a4, .int a5]) σ (fX8_letter fu σ o a1 a2 a3 a4 a5) := by
  intro X ad sz r τ hf
  refine hs_enter (cc := cX8_letter) (maxL := 6) (ret := (some .int)) (by decide) rfl (Nat.le_of_ble_eq_true rfl) ?_
  intro p e s m below meth c ls C hl hem hB hS hsz
  exact wX8_letter_e fu C hem σ o a1 a2 a3 a4 a5 hf hB hS hl
