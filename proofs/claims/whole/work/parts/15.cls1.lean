/-! ServiceGame$Machine.pileSuits(I)Z -/
abbrev rmX1_pileSuits : Room := { frames := 0, cells := 0, slots := 0, locals := 0 }
theorem inX1_pileSuits_X1 : ∀ w ∈ wsX10, w ∈ wsX1_pileSuits := fun _ h => List.mem_cons_of_mem _ (List.mem_append_right _ h)
theorem lkX1_pileSuits_0 : Cond.fieldLink RX1 40 "ServiceGame$Machine" "height" "I" ∈ wsX1_pileSuits := by decide +kernel
def fX1_pileSuits_137 (fu : Nat)  (σ : hs_T) (x0 : Nat) : Option (Int32 × hs_T) :=
 (hs_gI σ 3 x0 2).bind fun v3 =>
 if v3 < 2 then
 (some (0, σ))
 else
 (some (1, σ))
def fX1_pileSuits_108 (fu : Nat)  (σ : hs_T) (x0 : Nat) : Option (Int32 × hs_T) :=
 (hs_gI σ 3 x0 2).bind fun v11 =>
 if 8 ≤ v11 then
 (some (0, σ))
 else
 (some (1, σ))
def fX1_pileSuits_123 (fu : Nat)  (σ : hs_T) (x0 : Nat) : Option (Int32 × hs_T) :=
 (hs_gI σ 3 x0 2).bind fun v16 =>
 if v16 < 1 then
 (some (0, σ))
 else
 (some (1, σ))
def fX1_pileSuits (fu : Nat) (σ : hs_T) (o : Nat) (a1 : Int32) : Option (Int32 × hs_T) :=
 if a1 = 42 then
 (fX1_pileSuits_137 fu σ o)
 else
 if a1 = 43 then
 (fX1_pileSuits_137 fu σ o)
 else
 if a1 = 45 then
 (fX1_pileSuits_137 fu σ o)
 else
 if a1 = 60 then
 (fX1_pileSuits_137 fu σ o)
 else
 if a1 = 61 then
 (fX1_pileSuits_137 fu σ o)
 else
 if a1 = 97 then
 (fX1_pileSuits_108 fu σ o)
 else
 if a1 = 98 then
 (fX1_pileSuits_108 fu σ o)
 else
 if a1 = 106 then
 (fX1_pileSuits_123 fu σ o)
 else
 if a1 = 108 then
 (fX1_pileSuits_108 fu σ o)
 else
 if a1 = 111 then
 (fX1_pileSuits_123 fu σ o)
 else
 if a1 = 112 then
 (fX1_pileSuits_108 fu σ o)
 else
 if a1 = 115 then
 (fX1_pileSuits_123 fu σ o)
 else
 (some (1, σ))
section SX1_pileSuits
variable {p : Program} {l : Launch} {e : Env} {s : State} {m : MethodId} {args : Array Value} {below : List Frame} {meth : Method} {c : Code} {X : hs_X} {ad : Nat → Nat} {A : Nat → Prop} {r : Int32} {τ : hs_T}
set_option maxRecDepth 100000 in
set_option maxHeartbeats 4000000 in
theorem wX1_pileSuits_137 (fu : Nat) (C : hs_Cx p s m args meth c X A yX1_pileSuits cX1_pileSuits 2 (some .boolean) wsX1_pileSuits) (hem : ad hs_em = X.2.2.1.2.2.2)  {H : Heap} {locs : List Loc} {ls : Array Slot} (σ : hs_T) (x0 : Nat) (hf : fX1_pileSuits_137 fu  σ x0 = some (r, τ)) (hB : hs_H X.1 X.2.1 ad A σ H) (hS : va_S A s.heap H locs) (hl : lv_has ls 2 [(0, .ref (ad x0))]) : W p l e rmX1_pileSuits s m args below meth c H locs 0 0 (MQ below (hs_Q0 hs_tvi X ad A r τ) args s 0 0 A) (F0 m 137 ls []) := by
  obtain ⟨hx, hb, hml, hr, hts, hown, hlk, hnm, hV, hA0, hA⟩ := id C
  have hown : s.vm.findClass RX1 = some m.cls := hown
  have hK := hV.1
  have hNw := hV.2.1
  unfold fX1_pileSuits_137 at hf
  refine lv_aload_n hx hb dX1_pileSuits_137 rfl (lv_at hl 0 rfl) ?_
  obtain ⟨v3, h2, hf⟩ := hs_bi hf
  refine x_getI hx hb hts inX1_pileSuits_X1 hown hK hB (by decide) rfl (k := 2) (by decide) rfl h2 (hts _ lkX1_pileSuits_0) (fun _ h9 => h9) dX1_pileSuits_138 ?_
  refine lv_iconst (v := 2) hx hb dX1_pileSuits_141 (by decide) ?_
  refine lv_icmp_lt (tgt := 149) hx hb dX1_pileSuits_142 (by decide) (fun h4 => ?_) (fun h4 => ?_)
  · have hf := hs_tt h4 hf
    refine lv_iconst (v := 0) hx hb dX1_pileSuits_149 (by decide) ?_
    obtain ⟨rfl, rfl⟩ := hs_ri hf
    exact hs_zret hx hb hr hlk (by decide) hB hS dX1_pileSuits_150
  · have hf := hs_ff h4 hf
    refine lv_iconst (v := 1) hx hb dX1_pileSuits_145 (by decide) ?_
    refine lv_goto (tgt := 150) hx hb dX1_pileSuits_146 (by decide) ?_
    obtain ⟨rfl, rfl⟩ := hs_ri hf
    exact hs_zret hx hb hr hlk (by decide) hB hS dX1_pileSuits_150
set_option maxRecDepth 100000 in
set_option maxHeartbeats 4000000 in
theorem wX1_pileSuits_108 (fu : Nat) (C : hs_Cx p s m args meth c X A yX1_pileSuits cX1_pileSuits 2 (some .boolean) wsX1_pileSuits) (hem : ad hs_em = X.2.2.1.2.2.2)  {H : Heap} {locs : List Loc} {ls : Array Slot} (σ : hs_T) (x0 : Nat) (hf : fX1_pileSuits_108 fu  σ x0 = some (r, τ)) (hB : hs_H X.1 X.2.1 ad A σ H) (hS : va_S A s.heap H locs) (hl : lv_has ls 2 [(0, .ref (ad x0))]) : W p l e rmX1_pileSuits s m args below meth c H locs 0 0 (MQ below (hs_Q0 hs_tvi X ad A r τ) args s 0 0 A) (F0 m 108 ls []) := by
  obtain ⟨hx, hb, hml, hr, hts, hown, hlk, hnm, hV, hA0, hA⟩ := id C
  have hown : s.vm.findClass RX1 = some m.cls := hown
  have hK := hV.1
  have hNw := hV.2.1
  unfold fX1_pileSuits_108 at hf
  refine lv_aload_n hx hb dX1_pileSuits_108 rfl (lv_at hl 0 rfl) ?_
  obtain ⟨v11, h10, hf⟩ := hs_bi hf
  refine x_getI hx hb hts inX1_pileSuits_X1 hown hK hB (by decide) rfl (k := 2) (by decide) rfl h10 (hts _ lkX1_pileSuits_0) (fun _ h9 => h9) dX1_pileSuits_109 ?_
  refine lv_bipush (v := 8) hx hb dX1_pileSuits_112 (by decide) ?_
  refine lv_icmp_ge (tgt := 121) hx hb dX1_pileSuits_114 (by decide) (fun h12 => ?_) (fun h12 => ?_)
  · have hf := hs_tt h12 hf
    refine lv_iconst (v := 0) hx hb dX1_pileSuits_121 (by decide) ?_
    obtain ⟨rfl, rfl⟩ := hs_ri hf
    exact hs_zret hx hb hr hlk (by decide) hB hS dX1_pileSuits_122
  · have hf := hs_ff h12 hf
    refine lv_iconst (v := 1) hx hb dX1_pileSuits_117 (by decide) ?_
    refine lv_goto (tgt := 122) hx hb dX1_pileSuits_118 (by decide) ?_
    obtain ⟨rfl, rfl⟩ := hs_ri hf
    exact hs_zret hx hb hr hlk (by decide) hB hS dX1_pileSuits_122
set_option maxRecDepth 100000 in
set_option maxHeartbeats 4000000 in
theorem wX1_pileSuits_123 (fu : Nat) (C : hs_Cx p s m args meth c X A yX1_pileSuits cX1_pileSuits 2 (some .boolean) wsX1_pileSuits) (hem : ad hs_em = X.2.2.1.2.2.2)  {H : Heap} {locs : List Loc} {ls : Array Slot} (σ : hs_T) (x0 : Nat) (hf : fX1_pileSuits_123 fu  σ x0 = some (r, τ)) (hB : hs_H X.1 X.2.1 ad A σ H) (hS : va_S A s.heap H locs) (hl : lv_has ls 2 [(0, .ref (ad x0))]) : W p l e rmX1_pileSuits s m args below meth c H locs 0 0 (MQ below (hs_Q0 hs_tvi X ad A r τ) args s 0 0 A) (F0 m 123 ls []) := by
  obtain ⟨hx, hb, hml, hr, hts, hown, hlk, hnm, hV, hA0, hA⟩ := id C
  have hown : s.vm.findClass RX1 = some m.cls := hown
  have hK := hV.1
  have hNw := hV.2.1
  unfold fX1_pileSuits_123 at hf
  refine lv_aload_n hx hb dX1_pileSuits_123 rfl (lv_at hl 0 rfl) ?_
  obtain ⟨v16, h15, hf⟩ := hs_bi hf
  refine x_getI hx hb hts inX1_pileSuits_X1 hown hK hB (by decide) rfl (k := 2) (by decide) rfl h15 (hts _ lkX1_pileSuits_0) (fun _ h9 => h9) dX1_pileSuits_124 ?_
  refine lv_iconst (v := 1) hx hb dX1_pileSuits_127 (by decide) ?_
  refine lv_icmp_lt (tgt := 135) hx hb dX1_pileSuits_128 (by decide) (fun h17 => ?_) (fun h17 => ?_)
  · have hf := hs_tt h17 hf
    refine lv_iconst (v := 0) hx hb dX1_pileSuits_135 (by decide) ?_
    obtain ⟨rfl, rfl⟩ := hs_ri hf
    exact hs_zret hx hb hr hlk (by decide) hB hS dX1_pileSuits_136
  · have hf := hs_ff h17 hf
    refine lv_iconst (v := 1) hx hb dX1_pileSuits_131 (by decide) ?_
    refine lv_goto (tgt := 136) hx hb dX1_pileSuits_132 (by decide) ?_
    obtain ⟨rfl, rfl⟩ := hs_ri hf
    exact hs_zret hx hb hr hlk (by decide) hB hS dX1_pileSuits_136
set_option maxRecDepth 100000 in
set_option maxHeartbeats 4000000 in
theorem wX1_pileSuits_e (fu : Nat) (C : hs_Cx p s m args meth c X A yX1_pileSuits cX1_pileSuits 2 (some .boolean) wsX1_pileSuits) (hem : ad hs_em = X.2.2.1.2.2.2) {H : Heap} {locs : List Loc} {ls : Array Slot} (σ : hs_T) (o : Nat) (a1 : Int32) (hf : fX1_pileSuits fu σ o a1 = some (r, τ)) (hB : hs_H X.1 X.2.1 ad A σ H) (hS : va_S A s.heap H locs) (hl : lv_has ls 2 [(0, .ref (ad o)), (1, .int a1)]) : W p l e rmX1_pileSuits s m args below meth c H locs 0 0 (MQ below (hs_Q0 hs_tvi X ad A r τ) args s 0 0 A) (F0 m 0 ls []) := by
  obtain ⟨hx, hb, hml, hr, hts, hown, hlk, hnm, hV, hA0, hA⟩ := id C
  have hown : s.vm.findClass RX1 = some m.cls := hown
  have hK := hV.1
  have hNw := hV.2.1
  unfold fX1_pileSuits at hf
  refine lv_iload_n hx hb dX1_pileSuits_0 rfl (lv_at hl 1 rfl) ?_
  by_cases h1 : a1 = 42
  · have hf := hs_tt h1 hf
    refine lv_lookup (tgt := 137) (off := 136) hx hb dX1_pileSuits_1 (by decide) (by rw [h1]; decide) (by decide) ?_
    exact wX1_pileSuits_137 fu C hem σ o hf hB hS (lv_sub hl [0] rfl)
  have hf := hs_ff h1 hf
  by_cases h5 : a1 = 43
  · have hf := hs_tt h5 hf
    refine lv_lookup (tgt := 137) (off := 136) hx hb dX1_pileSuits_1 (by decide) (by rw [h5]; decide) (by decide) ?_
    exact wX1_pileSuits_137 fu C hem σ o hf hB hS (lv_sub hl [0] rfl)
  have hf := hs_ff h5 hf
  by_cases h6 : a1 = 45
  · have hf := hs_tt h6 hf
    refine lv_lookup (tgt := 137) (off := 136) hx hb dX1_pileSuits_1 (by decide) (by rw [h6]; decide) (by decide) ?_
    exact wX1_pileSuits_137 fu C hem σ o hf hB hS (lv_sub hl [0] rfl)
  have hf := hs_ff h6 hf
  by_cases h7 : a1 = 60
  · have hf := hs_tt h7 hf
    refine lv_lookup (tgt := 137) (off := 136) hx hb dX1_pileSuits_1 (by decide) (by rw [h7]; decide) (by decide) ?_
    exact wX1_pileSuits_137 fu C hem σ o hf hB hS (lv_sub hl [0] rfl)
  have hf := hs_ff h7 hf
  by_cases h8 : a1 = 61
  · have hf := hs_tt h8 hf
    refine lv_lookup (tgt := 137) (off := 136) hx hb dX1_pileSuits_1 (by decide) (by rw [h8]; decide) (by decide) ?_
    exact wX1_pileSuits_137 fu C hem σ o hf hB hS (lv_sub hl [0] rfl)
  have hf := hs_ff h8 hf
  by_cases h9 : a1 = 97
  · have hf := hs_tt h9 hf
    refine lv_lookup (tgt := 108) (off := 107) hx hb dX1_pileSuits_1 (by decide) (by rw [h9]; decide) (by decide) ?_
    exact wX1_pileSuits_108 fu C hem σ o hf hB hS (lv_sub hl [0] rfl)
  have hf := hs_ff h9 hf
  by_cases h13 : a1 = 98
  · have hf := hs_tt h13 hf
    refine lv_lookup (tgt := 108) (off := 107) hx hb dX1_pileSuits_1 (by decide) (by rw [h13]; decide) (by decide) ?_
    exact wX1_pileSuits_108 fu C hem σ o hf hB hS (lv_sub hl [0] rfl)
  have hf := hs_ff h13 hf
  by_cases h14 : a1 = 106
  · have hf := hs_tt h14 hf
    refine lv_lookup (tgt := 123) (off := 122) hx hb dX1_pileSuits_1 (by decide) (by rw [h14]; decide) (by decide) ?_
    exact wX1_pileSuits_123 fu C hem σ o hf hB hS (lv_sub hl [0] rfl)
  have hf := hs_ff h14 hf
  by_cases h18 : a1 = 108
  · have hf := hs_tt h18 hf
    refine lv_lookup (tgt := 108) (off := 107) hx hb dX1_pileSuits_1 (by decide) (by rw [h18]; decide) (by decide) ?_
    exact wX1_pileSuits_108 fu C hem σ o hf hB hS (lv_sub hl [0] rfl)
  have hf := hs_ff h18 hf
  by_cases h19 : a1 = 111
  · have hf := hs_tt h19 hf
    refine lv_lookup (tgt := 123) (off := 122) hx hb dX1_pileSuits_1 (by decide) (by rw [h19]; decide) (by decide) ?_
    exact wX1_pileSuits_123 fu C hem σ o hf hB hS (lv_sub hl [0] rfl)
  have hf := hs_ff h19 hf
  by_cases h20 : a1 = 112
  · have hf := hs_tt h20 hf
    refine lv_lookup (tgt := 108) (off := 107) hx hb dX1_pileSuits_1 (by decide) (by rw [h20]; decide) (by decide) ?_
    exact wX1_pileSuits_108 fu C hem σ o hf hB hS (lv_sub hl [0] rfl)
  have hf := hs_ff h20 hf
  by_cases h21 : a1 = 115
  · have hf := hs_tt h21 hf
    refine lv_lookup (tgt := 123) (off := 122) hx hb dX1_pileSuits_1 (by decide) (by rw [h21]; decide) (by decide) ?_
    exact wX1_pileSuits_123 fu C hem σ o hf hB hS (lv_sub hl [0] rfl)
  have hf := hs_ff h21 hf
  refine lv_lookup (tgt := 151) (off := 150) hx hb dX1_pileSuits_1 (by decide) (by rw [lv_osw h1 (a := 42) (by decide), lv_osw h5 (a := 43) (by decide), lv_osw h6 (a := 45) (by decide), lv_osw h7 (a := 60) (by decide), lv_osw h8 (a := 61) (by decide), lv_osw h9 (a := 97) (by decide), lv_osw h13 (a := 98) (by decide), lv_osw h14 (a := 106) (by decide), lv_osw h18 (a := 108) (by decide), lv_osw h19 (a := 111) (by decide), lv_osw h20 (a := 112) (by decide), lv_osw h21 (a := 115) (by decide)]; rfl) (by decide) ?_
  refine lv_iconst (v := 1) hx hb dX1_pileSuits_151 (by decide) ?_
  obtain ⟨rfl, rfl⟩ := hs_ri hf
  exact hs_zret hx hb hr hlk (by decide) hB hS dX1_pileSuits_152
end SX1_pileSuits
set_option maxRecDepth 100000 in
theorem ctX1_pileSuits (l : Launch) (fu : Nat) (σ : hs_T) (o : Nat) (a1 : Int32) : hs_C0 hs_tvi l yX1_pileSuits wsX1_pileSuits rmX1_pileSuits (fun ad => [.ref (ad o), .int a1]) σ (fX1_pileSuits fu σ o a1) := by
  intro X ad sz r τ hf
  refine hs_enter (cc := cX1_pileSuits) (maxL := 2) (ret := (some .boolean)) (by decide) rfl (Nat.le_of_ble_eq_true rfl) ?_
  intro p e s m below meth c ls C hl hem hB hS hsz
  exact wX1_pileSuits_e fu C hem σ o a1 hf hB hS hl
/-! ServiceGame$Machine.pull()I -/
abbrev rmX1_pull : Room := { frames := 0, cells := 0, slots := 0, locals := 0 }
theorem inX1_pull_X1 : ∀ w ∈ wsX10, w ∈ wsX1_pull := fun _ h => List.mem_cons_of_mem _ (List.mem_append_right _ h)
theorem lkX1_pull_0 : Cond.fieldLink RX1 40 "ServiceGame$Machine" "height" "I" ∈ wsX1_pull := by decide +kernel
theorem lkX1_pull_1 : Cond.fieldLink RX1 9 "ServiceGame$Machine" "pile" "[I" ∈ wsX1_pull := by decide +kernel
def fX1_pull (fu : Nat) (σ : hs_T) (o : Nat) : Option (Int32 × hs_T) :=
 (hs_gI σ 3 o 2).bind fun v2 =>
 if 1 ≤ v2 then
 ((hs_gI σ 3 o 2).bind fun v5 =>
 (hs_pI σ 3 o 2 (v5 - 1)).bind fun σ7 =>
 (hs_gN σ7 3 o 0).bind fun n9 =>
 (hs_gI σ7 3 o 2).bind fun v11 =>
 (hs_ld σ7 11 n9 v11).bind fun v12 =>
 some (v12, σ7))
 else
 (some (0, σ))
section SX1_pull
variable {p : Program} {l : Launch} {e : Env} {s : State} {m : MethodId} {args : Array Value} {below : List Frame} {meth : Method} {c : Code} {X : hs_X} {ad : Nat → Nat} {A : Nat → Prop} {r : Int32} {τ : hs_T}
set_option maxRecDepth 100000 in
set_option maxHeartbeats 4000000 in
theorem wX1_pull_e (fu : Nat) (C : hs_Cx p s m args meth c X A yX1_pull cX1_pull 1 (some .int) wsX1_pull) (hem : ad hs_em = X.2.2.1.2.2.2) {H : Heap} {locs : List Loc} {ls : Array Slot} (σ : hs_T) (o : Nat) (hf : fX1_pull fu σ o = some (r, τ)) (hB : hs_H X.1 X.2.1 ad A σ H) (hS : va_S A s.heap H locs) (hl : lv_has ls 1 [(0, .ref (ad o))]) : W p l e rmX1_pull s m args below meth c H locs 0 0 (MQ below (hs_Q0 hs_tvi X ad A r τ) args s 0 0 A) (F0 m 0 ls []) := by
  obtain ⟨hx, hb, hml, hr, hts, hown, hlk, hnm, hV, hA0, hA⟩ := id C
  have hown : s.vm.findClass RX1 = some m.cls := hown
  have hK := hV.1
  have hNw := hV.2.1
  unfold fX1_pull at hf
  refine lv_aload_n hx hb dX1_pull_0 rfl (lv_at hl 0 rfl) ?_
  obtain ⟨v2, h1, hf⟩ := hs_bi hf
  refine x_getI hx hb hts inX1_pull_X1 hown hK hB (by decide) rfl (k := 2) (by decide) rfl h1 (hts _ lkX1_pull_0) (fun _ h9 => h9) dX1_pull_1 ?_
  refine lv_iconst (v := 1) hx hb dX1_pull_4 (by decide) ?_
  refine lv_icmp_ge (tgt := 10) hx hb dX1_pull_5 (by decide) (fun h3 => ?_) (fun h3 => ?_)
  · have hf := hs_tt h3 hf
    refine lv_aload_n hx hb dX1_pull_10 rfl (lv_at hl 0 rfl) ?_
    refine lv_dup hx hb dX1_pull_11 rfl ?_
    obtain ⟨v5, h4, hf⟩ := hs_bi hf
    refine x_getI hx hb hts inX1_pull_X1 hown hK hB (by decide) rfl (k := 2) (by decide) rfl h4 (hts _ lkX1_pull_0) (fun _ h9 => h9) dX1_pull_12 ?_
    refine lv_iconst (v := 1) hx hb dX1_pull_15 (by decide) ?_
    refine lv_isub hx hb dX1_pull_16 ?_
    obtain ⟨σ7, h6, hf⟩ := hs_bi hf
    refine x_putI hx hb hts inX1_pull_X1 tyX1_ok nmX1 hown hK hB hS (by decide) rfl (k := 2) (by decide) rfl h6 (hts _ lkX1_pull_0) (fun _ h9 => h9) rfl (by decide +kernel) dX1_pull_17 (fun H locs hB hS => ?_)
    refine lv_aload_n hx hb dX1_pull_20 rfl (lv_at hl 0 rfl) ?_
    obtain ⟨n9, h8, hf⟩ := hs_bi hf
    refine x_getN hx hb hts inX1_pull_X1 hown hK hB (by decide) rfl (k := 0) (by decide) rfl h8 (hts _ lkX1_pull_1) (fun _ h9 => h9) dX1_pull_21 ?_
    refine lv_aload_n hx hb dX1_pull_24 rfl (lv_at hl 0 rfl) ?_
    obtain ⟨v11, h10, hf⟩ := hs_bi hf
    refine x_getI hx hb hts inX1_pull_X1 hown hK hB (by decide) rfl (k := 2) (by decide) rfl h10 (hts _ lkX1_pull_0) (fun _ h9 => h9) dX1_pull_25 ?_
    obtain ⟨v12, h13, hf⟩ := hs_bi hf
    refine x_iald hx hb hK hB h13 dX1_pull_28 ?_
    obtain ⟨rfl, rfl⟩ := hs_ri hf
    exact hs_iret hx hb hr hlk hB hS dX1_pull_29
  · have hf := hs_ff h3 hf
    refine lv_iconst (v := 0) hx hb dX1_pull_8 (by decide) ?_
    obtain ⟨rfl, rfl⟩ := hs_ri hf
    exact hs_iret hx hb hr hlk hB hS dX1_pull_9
end SX1_pull
set_option maxRecDepth 100000 in
theorem ctX1_pull (l : Launch) (fu : Nat) (σ : hs_T) (o : Nat) : hs_C0 hs_tvi l yX1_pull wsX1_pull rmX1_pull (fun ad => [.ref (ad o)]) σ (fX1_pull fu σ o) := by
  intro X ad sz r τ hf
  refine hs_enter (cc := cX1_pull) (maxL := 1) (ret := (some .int)) (by decide) rfl (Nat.le_of_ble_eq_true rfl) ?_
  intro p e s m below meth c ls C hl hem hB hS hsz
  exact wX1_pull_e fu C hem σ o hf hB hS hl
/-! ServiceGame$Machine.push(I)V -/
abbrev rmX1_push : Room := { frames := 0, cells := 0, slots := 0, locals := 0 }
theorem inX1_push_X1 : ∀ w ∈ wsX10, w ∈ wsX1_push := fun _ h => List.mem_cons_of_mem _ (List.mem_append_right _ h)
theorem lkX1_push_0 : Cond.fieldLink RX1 40 "ServiceGame$Machine" "height" "I" ∈ wsX1_push := by decide +kernel
theorem lkX1_push_1 : Cond.fieldLink RX1 9 "ServiceGame$Machine" "pile" "[I" ∈ wsX1_push := by decide +kernel
def fX1_push (fu : Nat) (σ : hs_T) (o : Nat) (a1 : Int32) : Option (Unit × hs_T) :=
 (hs_gI σ 3 o 2).bind fun v2 =>
 if 8 ≤ v2 then
 (some ((), σ))
 else
 ((hs_gN σ 3 o 0).bind fun n5 =>
 (hs_gI σ 3 o 2).bind fun v7 =>
 (hs_st σ 11 n5 v7 a1).bind fun σ8 =>
 (hs_gI σ8 3 o 2).bind fun v11 =>
 (hs_pI σ8 3 o 2 (v11 + 1)).bind fun σ13 =>
 some ((), σ13))
section SX1_push
variable {p : Program} {l : Launch} {e : Env} {s : State} {m : MethodId} {args : Array Value} {below : List Frame} {meth : Method} {c : Code} {X : hs_X} {ad : Nat → Nat} {A : Nat → Prop} {r : Unit} {τ : hs_T}
set_option maxRecDepth 100000 in
set_option maxHeartbeats 4000000 in
theorem wX1_push_e (fu : Nat) (C : hs_Cx p s m args meth c X A yX1_push cX1_push 2 none wsX1_push) (hem : ad hs_em = X.2.2.1.2.2.2) {H : Heap} {locs : List Loc} {ls : Array Slot} (σ : hs_T) (o : Nat) (a1 : Int32) (hf : fX1_push fu σ o a1 = some (r, τ)) (hB : hs_H X.1 X.2.1 ad A σ H) (hS : va_S A s.heap H locs) (hl : lv_has ls 2 [(0, .ref (ad o)), (1, .int a1)]) : W p l e rmX1_push s m args below meth c H locs 0 0 (MQ below (hs_Q0 hs_tvv X ad A r τ) args s 0 0 A) (F0 m 0 ls []) := by
  obtain ⟨hx, hb, hml, hr, hts, hown, hlk, hnm, hV, hA0, hA⟩ := id C
  have hown : s.vm.findClass RX1 = some m.cls := hown
  have hK := hV.1
  have hNw := hV.2.1
  unfold fX1_push at hf
  refine lv_aload_n hx hb dX1_push_0 rfl (lv_at hl 0 rfl) ?_
  obtain ⟨v2, h1, hf⟩ := hs_bi hf
  refine x_getI hx hb hts inX1_push_X1 hown hK hB (by decide) rfl (k := 2) (by decide) rfl h1 (hts _ lkX1_push_0) (fun _ h9 => h9) dX1_push_1 ?_
  refine lv_bipush (v := 8) hx hb dX1_push_4 (by decide) ?_
  refine lv_icmp_ge (tgt := 29) hx hb dX1_push_6 (by decide) (fun h3 => ?_) (fun h3 => ?_)
  · have hf := hs_tt h3 hf
    obtain ⟨rfl, rfl⟩ := hs_ri hf
    exact hs_vret hx hb hr hlk hB hS dX1_push_29
  · have hf := hs_ff h3 hf
    refine lv_aload_n hx hb dX1_push_9 rfl (lv_at hl 0 rfl) ?_
    obtain ⟨n5, h4, hf⟩ := hs_bi hf
    refine x_getN hx hb hts inX1_push_X1 hown hK hB (by decide) rfl (k := 0) (by decide) rfl h4 (hts _ lkX1_push_1) (fun _ h9 => h9) dX1_push_10 ?_
    refine lv_aload_n hx hb dX1_push_13 rfl (lv_at hl 0 rfl) ?_
    obtain ⟨v7, h6, hf⟩ := hs_bi hf
    refine x_getI hx hb hts inX1_push_X1 hown hK hB (by decide) rfl (k := 2) (by decide) rfl h6 (hts _ lkX1_push_0) (fun _ h9 => h9) dX1_push_14 ?_
    refine lv_iload_n hx hb dX1_push_17 rfl (lv_at hl 1 rfl) ?_
    obtain ⟨σ8, h9, hf⟩ := hs_bi hf
    refine x_iast hx hb hK hB hS h9 dX1_push_18 (fun H locs hB hS => ?_)
    refine lv_aload_n hx hb dX1_push_19 rfl (lv_at hl 0 rfl) ?_
    refine lv_dup hx hb dX1_push_20 rfl ?_
    obtain ⟨v11, h10, hf⟩ := hs_bi hf
    refine x_getI hx hb hts inX1_push_X1 hown hK hB (by decide) rfl (k := 2) (by decide) rfl h10 (hts _ lkX1_push_0) (fun _ h9 => h9) dX1_push_21 ?_
    refine lv_iconst (v := 1) hx hb dX1_push_24 (by decide) ?_
    refine lv_iadd hx hb dX1_push_25 ?_
    obtain ⟨σ13, h12, hf⟩ := hs_bi hf
    refine x_putI hx hb hts inX1_push_X1 tyX1_ok nmX1 hown hK hB hS (by decide) rfl (k := 2) (by decide) rfl h12 (hts _ lkX1_push_0) (fun _ h9 => h9) rfl (by decide +kernel) dX1_push_26 (fun H locs hB hS => ?_)
    obtain ⟨rfl, rfl⟩ := hs_ri hf
    exact hs_vret hx hb hr hlk hB hS dX1_push_29
end SX1_push
set_option maxRecDepth 100000 in
theorem ctX1_push (l : Launch) (fu : Nat) (σ : hs_T) (o : Nat) (a1 : Int32) : hs_C0 hs_tvv l yX1_push wsX1_push rmX1_push (fun ad => [.ref (ad o), .int a1]) σ (fX1_push fu σ o a1) := by
  intro X ad sz r τ hf
  refine hs_enter (cc := cX1_push) (maxL := 2) (ret := none) (by decide) rfl (Nat.le_of_ble_eq_true rfl) ?_
  intro p e s m below meth c ls C hl hem hB hS hsz
  exact wX1_push_e fu C hem σ o a1 hf hB hS hl
/-! ServiceGame$Machine.joined(III)I -/
abbrev rmX1_joined : Room := { frames := 0, cells := 0, slots := 0, locals := 0 }
def fX1_joined (fu : Nat) (σ : hs_T) (a1 : Int32) (a2 : Int32) (a3 : Int32) : Option (Int32 × hs_T) :=
 if a1 = 42 then
 (some (((a2 * a3) - (a2 * a3) / 10000 * 10000), σ))
 else
 if a1 = 43 then
 (some (((a2 + a3) - (a2 + a3) / 10000 * 10000), σ))
 else
 if a1 = 45 then
 (some ((((a2 - a3) + 10000) - ((a2 - a3) + 10000) / 10000 * 10000), σ))
 else
 if a1 = 61 then
 (if a2 = a3 then
 (some (1, σ))
 else
 (some (0, σ)))
 else
 (if a3 ≤ a2 then
 (some (0, σ))
 else
 (some (1, σ)))
section SX1_joined
variable {p : Program} {l : Launch} {e : Env} {s : State} {m : MethodId} {args : Array Value} {below : List Frame} {meth : Method} {c : Code} {X : hs_X} {ad : Nat → Nat} {A : Nat → Prop} {r : Int32} {τ : hs_T}
set_option maxRecDepth 100000 in
set_option maxHeartbeats 4000000 in
theorem wX1_joined_e (fu : Nat) (C : hs_Cx p s m args meth c X A yX1_joined cX1_joined 3 (some .int) wsX1_joined) (hem : ad hs_em = X.2.2.1.2.2.2) {H : Heap} {locs : List Loc} {ls : Array Slot} (σ : hs_T) (a1 : Int32) (a2 : Int32) (a3 : Int32) (hf : fX1_joined fu σ a1 a2 a3 = some (r, τ)) (hB : hs_H X.1 X.2.1 ad A σ H) (hS : va_S A s.heap H locs) (hl : lv_has ls 3 [(0, .int a1), (1, .int a2), (2, .int a3)]) : W p l e rmX1_joined s m args below meth c H locs 0 0 (MQ below (hs_Q0 hs_tvi X ad A r τ) args s 0 0 A) (F0 m 0 ls []) := by
  obtain ⟨hx, hb, hml, hr, hts, hown, hlk, hnm, hV, hA0, hA⟩ := id C
  have hown : s.vm.findClass RX1 = some m.cls := hown
  have hK := hV.1
  have hNw := hV.2.1
  unfold fX1_joined at hf
  refine lv_iload_n hx hb dX1_joined_0 rfl (lv_at hl 0 rfl) ?_
  by_cases h1 : a1 = 42
  · have hf := hs_tt h1 hf
    refine lv_lookup (tgt := 64) (off := 63) hx hb dX1_joined_1 (by decide) (by rw [h1]; decide) (by decide) ?_
    refine lv_iload_n hx hb dX1_joined_64 rfl (lv_at hl 1 rfl) ?_
    refine lv_iload_n hx hb dX1_joined_65 rfl (lv_at hl 2 rfl) ?_
    refine lv_imul hx hb dX1_joined_66 ?_
    refine lv_sipush (v := 10000) hx hb dX1_joined_67 (by decide) ?_
    refine lv_irem hx hb dX1_joined_70 (by decide) ?_
    obtain ⟨rfl, rfl⟩ := hs_ri hf
    exact hs_iret hx hb hr hlk hB hS dX1_joined_71
  have hf := hs_ff h1 hf
  by_cases h2 : a1 = 43
  · have hf := hs_tt h2 hf
    refine lv_lookup (tgt := 44) (off := 43) hx hb dX1_joined_1 (by decide) (by rw [h2]; decide) (by decide) ?_
    refine lv_iload_n hx hb dX1_joined_44 rfl (lv_at hl 1 rfl) ?_
    refine lv_iload_n hx hb dX1_joined_45 rfl (lv_at hl 2 rfl) ?_
    refine lv_iadd hx hb dX1_joined_46 ?_
    refine lv_sipush (v := 10000) hx hb dX1_joined_47 (by decide) ?_
    refine lv_irem hx hb dX1_joined_50 (by decide) ?_
    obtain ⟨rfl, rfl⟩ := hs_ri hf
    exact hs_iret hx hb hr hlk hB hS dX1_joined_51
  have hf := hs_ff h2 hf
  by_cases h3 : a1 = 45
  · have hf := hs_tt h3 hf
    refine lv_lookup (tgt := 52) (off := 51) hx hb dX1_joined_1 (by decide) (by rw [h3]; decide) (by decide) ?_
    refine lv_iload_n hx hb dX1_joined_52 rfl (lv_at hl 1 rfl) ?_
    refine lv_iload_n hx hb dX1_joined_53 rfl (lv_at hl 2 rfl) ?_
    refine lv_isub hx hb dX1_joined_54 ?_
    refine lv_sipush (v := 10000) hx hb dX1_joined_55 (by decide) ?_
    refine lv_iadd hx hb dX1_joined_58 ?_
    refine lv_sipush (v := 10000) hx hb dX1_joined_59 (by decide) ?_
    refine lv_irem hx hb dX1_joined_62 (by decide) ?_
    obtain ⟨rfl, rfl⟩ := hs_ri hf
    exact hs_iret hx hb hr hlk hB hS dX1_joined_63
  have hf := hs_ff h3 hf
  by_cases h4 : a1 = 61
  · have hf := hs_tt h4 hf
    refine lv_lookup (tgt := 72) (off := 71) hx hb dX1_joined_1 (by decide) (by rw [h4]; decide) (by decide) ?_
    refine lv_iload_n hx hb dX1_joined_72 rfl (lv_at hl 1 rfl) ?_
    refine lv_iload_n hx hb dX1_joined_73 rfl (lv_at hl 2 rfl) ?_
    refine lv_icmp_ne (tgt := 81) hx hb dX1_joined_74 (by decide) (fun h5 => ?_) (fun h5 => ?_)
    · have hf := hs_ff h5 hf
      refine lv_iconst (v := 0) hx hb dX1_joined_81 (by decide) ?_
      obtain ⟨rfl, rfl⟩ := hs_ri hf
      exact hs_iret hx hb hr hlk hB hS dX1_joined_82
    · have hf := hs_tt h5 hf
      refine lv_iconst (v := 1) hx hb dX1_joined_77 (by decide) ?_
      refine lv_goto (tgt := 82) hx hb dX1_joined_78 (by decide) ?_
      obtain ⟨rfl, rfl⟩ := hs_ri hf
      exact hs_iret hx hb hr hlk hB hS dX1_joined_82
  have hf := hs_ff h4 hf
  refine lv_lookup (tgt := 83) (off := 82) hx hb dX1_joined_1 (by decide) (by rw [lv_osw h1 (a := 42) (by decide), lv_osw h2 (a := 43) (by decide), lv_osw h3 (a := 45) (by decide), lv_osw h4 (a := 61) (by decide)]; rfl) (by decide) ?_
  refine lv_iload_n hx hb dX1_joined_83 rfl (lv_at hl 1 rfl) ?_
  refine lv_iload_n hx hb dX1_joined_84 rfl (lv_at hl 2 rfl) ?_
  refine lv_icmp_ge (tgt := 92) hx hb dX1_joined_85 (by decide) (fun h6 => ?_) (fun h6 => ?_)
  · have hf := hs_tt h6 hf
    refine lv_iconst (v := 0) hx hb dX1_joined_92 (by decide) ?_
    obtain ⟨rfl, rfl⟩ := hs_ri hf
    exact hs_iret hx hb hr hlk hB hS dX1_joined_93
  · have hf := hs_ff h6 hf
    refine lv_iconst (v := 1) hx hb dX1_joined_88 (by decide) ?_
    refine lv_goto (tgt := 93) hx hb dX1_joined_89 (by decide) ?_
    obtain ⟨rfl, rfl⟩ := hs_ri hf
    exact hs_iret hx hb hr hlk hB hS dX1_joined_93
end SX1_joined
set_option maxRecDepth 100000 in
theorem ctX1_joined (l : Launch) (fu : Nat) (σ : hs_T) (a1 : Int32) (a2 : Int32) (a3 : Int32) : hs_C0 hs_tvi l yX1_joined wsX1_joined rmX1_joined (fun ad => [.int a1, .int a2, .int a3]) σ (fX1_joined fu σ a1 a2 a3) := by
  intro X ad sz r τ hf
  refine hs_enter (cc := cX1_joined) (maxL := 3) (ret := (some .int)) (by decide) rfl (Nat.le_of_ble_eq_true rfl) ?_
  intro p e s m below meth c ls C hl hem hB hS hsz
  exact wX1_joined_e fu C hem σ a1 a2 a3 hf hB hS hl
/-! ServiceGame$Machine.joinTwo(I)V -/
abbrev rmX1_joinTwo : Room := { frames := 1, cells := 0, slots := 0, locals := 22 }
def fX1_joinTwo (fu : Nat) (σ : hs_T) (o : Nat) (a1 : Int32) : Option (Unit × hs_T) :=
 (hs_ck σ 3 o).bind fun _ =>
 hs_b2 (fX1_pull fu σ o) fun v4 σ2 =>
 (hs_ck σ2 3 o).bind fun _ =>
 hs_b2 (fX1_pull fu σ2 o) fun v8 σ6 =>
 hs_b2 (fX1_joined fu σ6 a1 v8 v4) fun v11 σ10 =>
 (hs_ck σ10 3 o).bind fun _ =>
 hs_b2 (fX1_push fu σ10 o v11) fun _ σ13 =>
 some ((), σ13)
section SX1_joinTwo
variable {p : Program} {l : Launch} {e : Env} {s : State} {m : MethodId} {args : Array Value} {below : List Frame} {meth : Method} {c : Code} {X : hs_X} {ad : Nat → Nat} {A : Nat → Prop} {r : Unit} {τ : hs_T}
set_option maxRecDepth 100000 in
set_option maxHeartbeats 4000000 in
theorem wX1_joinTwo_e (fu : Nat) (C : hs_Cx p s m args meth c X A yX1_joinTwo cX1_joinTwo 4 none wsX1_joinTwo) (hem : ad hs_em = X.2.2.1.2.2.2) {H : Heap} {locs : List Loc} {ls : Array Slot} (σ : hs_T) (o : Nat) (a1 : Int32) (hf : fX1_joinTwo fu σ o a1 = some (r, τ)) (hB : hs_H X.1 X.2.1 ad A σ H) (hS : va_S A s.heap H locs) (hl : lv_has ls 4 [(0, .ref (ad o)), (1, .int a1)]) : W p l e rmX1_joinTwo s m args below meth c H locs 0 0 (MQ below (hs_Q0 hs_tvv X ad A r τ) args s 0 0 A) (F0 m 0 ls []) := by
  obtain ⟨hx, hb, hml, hr, hts, hown, hlk, hnm, hV, hA0, hA⟩ := id C
  have hown : s.vm.findClass RX1 = some m.cls := hown
  have hK := hV.1
  have hNw := hV.2.1
  unfold fX1_joinTwo at hf
  refine lv_aload_n hx hb dX1_joinTwo_0 rfl (lv_at hl 0 rfl) ?_
  obtain ⟨_, h3, hf⟩ := hs_bi hf
  obtain ⟨v4, σ2, h1, hf⟩ := hs_b2i hf
  refine hs_call0 (va_runV (As := []) (rest := []) ⟨hx, hb, hml, hown, hts⟩ (ctX1_pull l fu σ o X ad H.size _ _ h1) (cwV 0 hts gX1_joinTwo_X1_pull rfl rfl rfl (by decide +kernel) ⟨Nat.le_of_ble_eq_true rfl, Nat.le_of_ble_eq_true rfl⟩) (hs_preV (hs_recv hK hB (hs_ck_i h3) (by decide) rfl) hV hB hS hA0 hA hem) rfl rfl hl.1 rfl (lv_room (Nat.le_of_ble_eq_true rfl)) dX1_joinTwo_1 ⟨Nat.le_of_ble_eq_true rfl, Nat.le_of_ble_eq_true rfl⟩) hB hS hA rfl (fun H locs hB hS => ?_)
  refine lv_istore_n (lv' := [(2, .int v4), (0, .ref (ad o)), (1, .int a1)]) hx hb dX1_joinTwo_4 rfl hl (by decide) rfl (fun ls hl => ?_)
  refine lv_aload_n hx hb dX1_joinTwo_5 rfl (lv_at hl 1 rfl) ?_
  obtain ⟨_, h7, hf⟩ := hs_bi hf
  obtain ⟨v8, σ6, h5, hf⟩ := hs_b2i hf
  refine hs_call0 (va_runV (As := []) (rest := []) ⟨hx, hb, hml, hown, hts⟩ (ctX1_pull l fu σ2 o X ad H.size _ _ h5) (cwV 0 hts gX1_joinTwo_X1_pull rfl rfl rfl (by decide +kernel) ⟨Nat.le_of_ble_eq_true rfl, Nat.le_of_ble_eq_true rfl⟩) (hs_preV (hs_recv hK hB (hs_ck_i h7) (by decide) rfl) hV hB hS hA0 hA hem) rfl rfl hl.1 rfl (lv_room (Nat.le_of_ble_eq_true rfl)) dX1_joinTwo_6 ⟨Nat.le_of_ble_eq_true rfl, Nat.le_of_ble_eq_true rfl⟩) hB hS hA rfl (fun H locs hB hS => ?_)
  refine lv_istore_n (lv' := [(3, .int v8), (2, .int v4), (0, .ref (ad o)), (1, .int a1)]) hx hb dX1_joinTwo_9 rfl hl (by decide) rfl (fun ls hl => ?_)
  refine lv_aload_n hx hb dX1_joinTwo_10 rfl (lv_at hl 2 rfl) ?_
  refine lv_iload_n hx hb dX1_joinTwo_11 rfl (lv_at hl 3 rfl) ?_
  refine lv_iload_n hx hb dX1_joinTwo_12 rfl (lv_at hl 0 rfl) ?_
  refine lv_iload_n hx hb dX1_joinTwo_13 rfl (lv_at hl 1 rfl) ?_
  obtain ⟨v11, σ10, h9, hf⟩ := hs_b2i hf
  refine hs_call0 (va_runS (As := [.int a1, .int v8, .int v4]) (rest := [.ref (ad o)]) ⟨hx, hb, hml, hown, hts⟩ (ctX1_joined l fu σ6 a1 v8 v4 X ad H.size _ _ h9) (va_cwS 3 hts gX1_joinTwo_X1_joined rfl rfl rfl (by decide +kernel) ⟨Nat.le_of_ble_eq_true rfl, Nat.le_of_ble_eq_true rfl⟩) (hs_pre hV hB hS hA0 hA hem) rfl rfl hl.1 rfl (lv_room (Nat.le_of_ble_eq_true rfl)) dX1_joinTwo_14 ⟨Nat.le_of_ble_eq_true rfl, Nat.le_of_ble_eq_true rfl⟩) hB hS hA rfl (fun H locs hB hS => ?_)
  obtain ⟨_, h14, hf⟩ := hs_bi hf
  obtain ⟨_, σ13, h12, hf⟩ := hs_b2i hf
  refine hs_call0 (va_runV (As := [.int v11]) (rest := []) ⟨hx, hb, hml, hown, hts⟩ (ctX1_push l fu σ10 o v11 X ad H.size _ _ h12) (cwV 1 hts gX1_joinTwo_X1_push rfl rfl rfl (by decide +kernel) ⟨Nat.le_of_ble_eq_true rfl, Nat.le_of_ble_eq_true rfl⟩) (hs_preV (hs_recv hK hB (hs_ck_i h14) (by decide) rfl) hV hB hS hA0 hA hem) rfl rfl hl.1 rfl (lv_room (Nat.le_of_ble_eq_true rfl)) dX1_joinTwo_17 ⟨Nat.le_of_ble_eq_true rfl, Nat.le_of_ble_eq_true rfl⟩) hB hS hA rfl (fun H locs hB hS => ?_)
  obtain ⟨rfl, rfl⟩ := hs_ri hf
  exact hs_vret hx hb hr hlk hB hS dX1_joinTwo_20
end SX1_joinTwo
set_option maxRecDepth 100000 in
theorem ctX1_joinTwo (l : Launch) (fu : Nat) (σ : hs_T) (o : Nat) (a1 : Int32) : hs_C0 hs_tvv l yX1_joinTwo wsX1_joinTwo rmX1_joinTwo (fun ad => [.ref (ad o), .int a1]) σ (fX1_joinTwo fu σ o a1) := by
  intro X ad sz r τ hf
  refine hs_enter (cc := cX1_joinTwo) (maxL := 4) (ret := none) (by decide) rfl (Nat.le_of_ble_eq_true rfl) ?_
  intro p e s m below meth c ls C hl hem hB hS hsz
  exact wX1_joinTwo_e fu C hem σ o a1 hf hB hS hl
/-! ServiceGame$Machine.act(II[I)V -/
abbrev rmX1_act : Room := { frames := 2, cells := 0, slots := 0, locals := 45 }
theorem inX1_act_X1 : ∀ w ∈ wsX10, w ∈ wsX1_act := fun _ h => List.mem_cons_of_mem _ (List.mem_append_right _ h)
theorem lkX1_act_0 : Cond.fieldLink RX1 33 "ServiceGame$Machine" "first" "I" ∈ wsX1_act := by decide +kernel
theorem lkX1_act_1 : Cond.fieldLink RX1 37 "ServiceGame$Machine" "second" "I" ∈ wsX1_act := by decide +kernel
def fX1_act_142 (fu : Nat)  (σ : hs_T) (x0 : Nat) (x1 : Int32) : Option (Unit × hs_T) :=
 (hs_ck σ 3 x0).bind fun _ =>
 hs_b2 (fX1_joinTwo fu σ x0 x1) fun _ σ3 =>
 some ((), σ3)
def fX1_act (fu : Nat) (σ : hs_T) (o : Nat) (a1 : Int32) (a2 : Int32) (a3 : Nat) : Option (Unit × hs_T) :=
 if a1 = 42 then
 (fX1_act_142 fu σ o a1)
 else
 if a1 = 43 then
 (fX1_act_142 fu σ o a1)
 else
 if a1 = 45 then
 (fX1_act_142 fu σ o a1)
 else
 if a1 = 60 then
 (fX1_act_142 fu σ o a1)
 else
 if a1 = 61 then
 (fX1_act_142 fu σ o a1)
 else
 if a1 = 97 then
 ((hs_gI σ 3 o 3).bind fun v11 =>
 (hs_ck σ 3 o).bind fun _ =>
 hs_b2 (fX1_push fu σ o v11) fun _ σ13 =>
 some ((), σ13))
 else
 if a1 = 98 then
 ((hs_gI σ 3 o 4).bind fun v17 =>
 (hs_ck σ 3 o).bind fun _ =>
 hs_b2 (fX1_push fu σ o v17) fun _ σ19 =>
 some ((), σ19))
 else
 if a1 = 108 then
 ((hs_ld σ 11 a3 a2).bind fun v22 =>
 (hs_ck σ 3 o).bind fun _ =>
 hs_b2 (fX1_push fu σ o v22) fun _ σ25 =>
 some ((), σ25))
 else
 if a1 = 112 then
 ((hs_ck σ 3 o).bind fun _ =>
 hs_b2 (fX1_push fu σ o a2) fun _ σ29 =>
 some ((), σ29))
 else
 if a1 = 115 then
 ((hs_ck σ 3 o).bind fun _ =>
 hs_b2 (fX1_pull fu σ o) fun v35 σ33 =>
 (hs_st σ33 11 a3 a2 v35).bind fun σ36 =>
 some ((), σ36))
 else
 (some ((), σ))
section SX1_act
variable {p : Program} {l : Launch} {e : Env} {s : State} {m : MethodId} {args : Array Value} {below : List Frame} {meth : Method} {c : Code} {X : hs_X} {ad : Nat → Nat} {A : Nat → Prop} {r : Unit} {τ : hs_T}
set_option maxRecDepth 100000 in
set_option maxHeartbeats 4000000 in
theorem wX1_act_142 (fu : Nat) (C : hs_Cx p s m args meth c X A yX1_act cX1_act 4 none wsX1_act) (hem : ad hs_em = X.2.2.1.2.2.2)  {H : Heap} {locs : List Loc} {ls : Array Slot} (σ : hs_T) (x0 : Nat) (x1 : Int32) (hf : fX1_act_142 fu  σ x0 x1 = some (r, τ)) (hB : hs_H X.1 X.2.1 ad A σ H) (hS : va_S A s.heap H locs) (hl : lv_has ls 4 [(0, .ref (ad x0)), (1, .int x1)]) : W p l e rmX1_act s m args below meth c H locs 0 0 (MQ below (hs_Q0 hs_tvv X ad A r τ) args s 0 0 A) (F0 m 142 ls []) := by
  obtain ⟨hx, hb, hml, hr, hts, hown, hlk, hnm, hV, hA0, hA⟩ := id C
  have hown : s.vm.findClass RX1 = some m.cls := hown
  have hK := hV.1
  have hNw := hV.2.1
  unfold fX1_act_142 at hf
  refine lv_aload_n hx hb dX1_act_142 rfl (lv_at hl 0 rfl) ?_
  refine lv_iload_n hx hb dX1_act_143 rfl (lv_at hl 1 rfl) ?_
  obtain ⟨_, h4, hf⟩ := hs_bi hf
  obtain ⟨_, σ3, h2, hf⟩ := hs_b2i hf
  refine hs_call0 (va_runV (As := [.int x1]) (rest := []) ⟨hx, hb, hml, hown, hts⟩ (ctX1_joinTwo l fu σ x0 x1 X ad H.size _ _ h2) (cwV 1 hts gX1_act_X1_joinTwo rfl rfl rfl (by decide +kernel) ⟨Nat.le_of_ble_eq_true rfl, Nat.le_of_ble_eq_true rfl⟩) (hs_preV (hs_recv hK hB (hs_ck_i h4) (by decide) rfl) hV hB hS hA0 hA hem) rfl rfl hl.1 rfl (lv_room (Nat.le_of_ble_eq_true rfl)) dX1_act_144 ⟨Nat.le_of_ble_eq_true rfl, Nat.le_of_ble_eq_true rfl⟩) hB hS hA rfl (fun H locs hB hS => ?_)
  refine lv_goto (tgt := 150) hx hb dX1_act_147 (by decide) ?_
  obtain ⟨rfl, rfl⟩ := hs_ri hf
  exact hs_vret hx hb hr hlk hB hS dX1_act_150
set_option maxRecDepth 100000 in
set_option maxHeartbeats 4000000 in
theorem wX1_act_e (fu : Nat) (C : hs_Cx p s m args meth c X A yX1_act cX1_act 4 none wsX1_act) (hem : ad hs_em = X.2.2.1.2.2.2) {H : Heap} {locs : List Loc} {ls : Array Slot} (σ : hs_T) (o : Nat) (a1 : Int32) (a2 : Int32) (a3 : Nat) (hf : fX1_act fu σ o a1 a2 a3 = some (r, τ)) (hB : hs_H X.1 X.2.1 ad A σ H) (hS : va_S A s.heap H locs) (hl : lv_has ls 4 [(0, .ref (ad o)), (1, .int a1), (2, .int a2), (3, .ref (ad a3))]) : W p l e rmX1_act s m args below meth c H locs 0 0 (MQ below (hs_Q0 hs_tvv X ad A r τ) args s 0 0 A) (F0 m 0 ls []) := by
  obtain ⟨hx, hb, hml, hr, hts, hown, hlk, hnm, hV, hA0, hA⟩ := id C
  have hown : s.vm.findClass RX1 = some m.cls := hown
  have hK := hV.1
  have hNw := hV.2.1
  unfold fX1_act at hf
  refine lv_iload_n hx hb dX1_act_0 rfl (lv_at hl 1 rfl) ?_
  by_cases h1 : a1 = 42
  · have hf := hs_tt h1 hf
    refine lv_lookup (tgt := 142) (off := 141) hx hb dX1_act_1 (by decide) (by rw [h1]; decide) (by decide) ?_
    exact wX1_act_142 fu C hem σ o a1 hf hB hS (lv_sub hl [0, 1] rfl)
  have hf := hs_ff h1 hf
  by_cases h5 : a1 = 43
  · have hf := hs_tt h5 hf
    refine lv_lookup (tgt := 142) (off := 141) hx hb dX1_act_1 (by decide) (by rw [h5]; decide) (by decide) ?_
    exact wX1_act_142 fu C hem σ o a1 hf hB hS (lv_sub hl [0, 1] rfl)
  have hf := hs_ff h5 hf
  by_cases h6 : a1 = 45
  · have hf := hs_tt h6 hf
    refine lv_lookup (tgt := 142) (off := 141) hx hb dX1_act_1 (by decide) (by rw [h6]; decide) (by decide) ?_
    exact wX1_act_142 fu C hem σ o a1 hf hB hS (lv_sub hl [0, 1] rfl)
  have hf := hs_ff h6 hf
  by_cases h7 : a1 = 60
  · have hf := hs_tt h7 hf
    refine lv_lookup (tgt := 142) (off := 141) hx hb dX1_act_1 (by decide) (by rw [h7]; decide) (by decide) ?_
    exact wX1_act_142 fu C hem σ o a1 hf hB hS (lv_sub hl [0, 1] rfl)
  have hf := hs_ff h7 hf
  by_cases h8 : a1 = 61
  · have hf := hs_tt h8 hf
    refine lv_lookup (tgt := 142) (off := 141) hx hb dX1_act_1 (by decide) (by rw [h8]; decide) (by decide) ?_
    exact wX1_act_142 fu C hem σ o a1 hf hB hS (lv_sub hl [0, 1] rfl)
  have hf := hs_ff h8 hf
  by_cases h9 : a1 = 97
  · have hf := hs_tt h9 hf
    refine lv_lookup (tgt := 100) (off := 99) hx hb dX1_act_1 (by decide) (by rw [h9]; decide) (by decide) ?_
    refine lv_aload_n hx hb dX1_act_100 rfl (lv_at hl 0 rfl) ?_
    refine lv_aload_n hx hb dX1_act_101 rfl (lv_at hl 0 rfl) ?_
    obtain ⟨v11, h10, hf⟩ := hs_bi hf
    refine x_getI hx hb hts inX1_act_X1 hown hK hB (by decide) rfl (k := 3) (by decide) rfl h10 (hts _ lkX1_act_0) (fun _ h9 => h9) dX1_act_102 ?_
    obtain ⟨_, h14, hf⟩ := hs_bi hf
    obtain ⟨_, σ13, h12, hf⟩ := hs_b2i hf
    refine hs_call0 (va_runV (As := [.int v11]) (rest := []) ⟨hx, hb, hml, hown, hts⟩ (ctX1_push l fu σ o v11 X ad H.size _ _ h12) (cwV 1 hts gX1_act_X1_push rfl rfl rfl (by decide +kernel) ⟨Nat.le_of_ble_eq_true rfl, Nat.le_of_ble_eq_true rfl⟩) (hs_preV (hs_recv hK hB (hs_ck_i h14) (by decide) rfl) hV hB hS hA0 hA hem) rfl rfl hl.1 rfl (lv_room (Nat.le_of_ble_eq_true rfl)) dX1_act_105 ⟨Nat.le_of_ble_eq_true rfl, Nat.le_of_ble_eq_true rfl⟩) hB hS hA rfl (fun H locs hB hS => ?_)
    refine lv_goto (tgt := 150) hx hb dX1_act_108 (by decide) ?_
    obtain ⟨rfl, rfl⟩ := hs_ri hf
    exact hs_vret hx hb hr hlk hB hS dX1_act_150
  have hf := hs_ff h9 hf
  by_cases h15 : a1 = 98
  · have hf := hs_tt h15 hf
    refine lv_lookup (tgt := 111) (off := 110) hx hb dX1_act_1 (by decide) (by rw [h15]; decide) (by decide) ?_
    refine lv_aload_n hx hb dX1_act_111 rfl (lv_at hl 0 rfl) ?_
    refine lv_aload_n hx hb dX1_act_112 rfl (lv_at hl 0 rfl) ?_
    obtain ⟨v17, h16, hf⟩ := hs_bi hf
    refine x_getI hx hb hts inX1_act_X1 hown hK hB (by decide) rfl (k := 4) (by decide) rfl h16 (hts _ lkX1_act_1) (fun _ h9 => h9) dX1_act_113 ?_
    obtain ⟨_, h20, hf⟩ := hs_bi hf
    obtain ⟨_, σ19, h18, hf⟩ := hs_b2i hf
    refine hs_call0 (va_runV (As := [.int v17]) (rest := []) ⟨hx, hb, hml, hown, hts⟩ (ctX1_push l fu σ o v17 X ad H.size _ _ h18) (cwV 1 hts gX1_act_X1_push rfl rfl rfl (by decide +kernel) ⟨Nat.le_of_ble_eq_true rfl, Nat.le_of_ble_eq_true rfl⟩) (hs_preV (hs_recv hK hB (hs_ck_i h20) (by decide) rfl) hV hB hS hA0 hA hem) rfl rfl hl.1 rfl (lv_room (Nat.le_of_ble_eq_true rfl)) dX1_act_116 ⟨Nat.le_of_ble_eq_true rfl, Nat.le_of_ble_eq_true rfl⟩) hB hS hA rfl (fun H locs hB hS => ?_)
    refine lv_goto (tgt := 150) hx hb dX1_act_119 (by decide) ?_
    obtain ⟨rfl, rfl⟩ := hs_ri hf
    exact hs_vret hx hb hr hlk hB hS dX1_act_150
  have hf := hs_ff h15 hf
  by_cases h21 : a1 = 108
  · have hf := hs_tt h21 hf
    refine lv_lookup (tgt := 122) (off := 121) hx hb dX1_act_1 (by decide) (by rw [h21]; decide) (by decide) ?_
    refine lv_aload_n hx hb dX1_act_122 rfl (lv_at hl 0 rfl) ?_
    refine lv_aload_n hx hb dX1_act_123 rfl (lv_at hl 3 rfl) ?_
    refine lv_iload_n hx hb dX1_act_124 rfl (lv_at hl 2 rfl) ?_
    obtain ⟨v22, h23, hf⟩ := hs_bi hf
    refine x_iald hx hb hK hB h23 dX1_act_125 ?_
    obtain ⟨_, h26, hf⟩ := hs_bi hf
    obtain ⟨_, σ25, h24, hf⟩ := hs_b2i hf
    refine hs_call0 (va_runV (As := [.int v22]) (rest := []) ⟨hx, hb, hml, hown, hts⟩ (ctX1_push l fu σ o v22 X ad H.size _ _ h24) (cwV 1 hts gX1_act_X1_push rfl rfl rfl (by decide +kernel) ⟨Nat.le_of_ble_eq_true rfl, Nat.le_of_ble_eq_true rfl⟩) (hs_preV (hs_recv hK hB (hs_ck_i h26) (by decide) rfl) hV hB hS hA0 hA hem) rfl rfl hl.1 rfl (lv_room (Nat.le_of_ble_eq_true rfl)) dX1_act_126 ⟨Nat.le_of_ble_eq_true rfl, Nat.le_of_ble_eq_true rfl⟩) hB hS hA rfl (fun H locs hB hS => ?_)
    refine lv_goto (tgt := 150) hx hb dX1_act_129 (by decide) ?_
    obtain ⟨rfl, rfl⟩ := hs_ri hf
    exact hs_vret hx hb hr hlk hB hS dX1_act_150
  have hf := hs_ff h21 hf
  by_cases h27 : a1 = 112
  · have hf := hs_tt h27 hf
    refine lv_lookup (tgt := 92) (off := 91) hx hb dX1_act_1 (by decide) (by rw [h27]; decide) (by decide) ?_
    refine lv_aload_n hx hb dX1_act_92 rfl (lv_at hl 0 rfl) ?_
    refine lv_iload_n hx hb dX1_act_93 rfl (lv_at hl 2 rfl) ?_
    obtain ⟨_, h30, hf⟩ := hs_bi hf
    obtain ⟨_, σ29, h28, hf⟩ := hs_b2i hf
    refine hs_call0 (va_runV (As := [.int a2]) (rest := []) ⟨hx, hb, hml, hown, hts⟩ (ctX1_push l fu σ o a2 X ad H.size _ _ h28) (cwV 1 hts gX1_act_X1_push rfl rfl rfl (by decide +kernel) ⟨Nat.le_of_ble_eq_true rfl, Nat.le_of_ble_eq_true rfl⟩) (hs_preV (hs_recv hK hB (hs_ck_i h30) (by decide) rfl) hV hB hS hA0 hA hem) rfl rfl hl.1 rfl (lv_room (Nat.le_of_ble_eq_true rfl)) dX1_act_94 ⟨Nat.le_of_ble_eq_true rfl, Nat.le_of_ble_eq_true rfl⟩) hB hS hA rfl (fun H locs hB hS => ?_)
    refine lv_goto (tgt := 150) hx hb dX1_act_97 (by decide) ?_
    obtain ⟨rfl, rfl⟩ := hs_ri hf
    exact hs_vret hx hb hr hlk hB hS dX1_act_150
  have hf := hs_ff h27 hf
  by_cases h31 : a1 = 115
  · have hf := hs_tt h31 hf
    refine lv_lookup (tgt := 132) (off := 131) hx hb dX1_act_1 (by decide) (by rw [h31]; decide) (by decide) ?_
    refine lv_aload_n hx hb dX1_act_132 rfl (lv_at hl 3 rfl) ?_
    refine lv_iload_n hx hb dX1_act_133 rfl (lv_at hl 2 rfl) ?_
    refine lv_aload_n hx hb dX1_act_134 rfl (lv_at hl 0 rfl) ?_
    obtain ⟨_, h34, hf⟩ := hs_bi hf
    obtain ⟨v35, σ33, h32, hf⟩ := hs_b2i hf
    refine hs_call0 (va_runV (As := []) (rest := [.int a2, .ref (ad a3)]) ⟨hx, hb, hml, hown, hts⟩ (ctX1_pull l fu σ o X ad H.size _ _ h32) (cwV 0 hts gX1_act_X1_pull rfl rfl rfl (by decide +kernel) ⟨Nat.le_of_ble_eq_true rfl, Nat.le_of_ble_eq_true rfl⟩) (hs_preV (hs_recv hK hB (hs_ck_i h34) (by decide) rfl) hV hB hS hA0 hA hem) rfl rfl hl.1 rfl (lv_room (Nat.le_of_ble_eq_true rfl)) dX1_act_135 ⟨Nat.le_of_ble_eq_true rfl, Nat.le_of_ble_eq_true rfl⟩) hB hS hA rfl (fun H locs hB hS => ?_)
    obtain ⟨σ36, h37, hf⟩ := hs_bi hf
    refine x_iast hx hb hK hB hS h37 dX1_act_138 (fun H locs hB hS => ?_)
    refine lv_goto (tgt := 150) hx hb dX1_act_139 (by decide) ?_
    obtain ⟨rfl, rfl⟩ := hs_ri hf
    exact hs_vret hx hb hr hlk hB hS dX1_act_150
  have hf := hs_ff h31 hf
  refine lv_lookup (tgt := 150) (off := 149) hx hb dX1_act_1 (by decide) (by rw [lv_osw h1 (a := 42) (by decide), lv_osw h5 (a := 43) (by decide), lv_osw h6 (a := 45) (by decide), lv_osw h7 (a := 60) (by decide), lv_osw h8 (a := 61) (by decide), lv_osw h9 (a := 97) (by decide), lv_osw h15 (a := 98) (by decide), lv_osw h21 (a := 108) (by decide), lv_osw h27 (a := 112) (by decide), lv_osw h31 (a := 115) (by decide)]; rfl) (by decide) ?_
  obtain ⟨rfl, rfl⟩ := hs_ri hf
  exact hs_vret hx hb hr hlk hB hS dX1_act_150
end SX1_act
set_option maxRecDepth 100000 in
theorem ctX1_act (l : Launch) (fu : Nat) (σ : hs_T) (o : Nat) (a1 : Int32) (a2 : Int32) (a3 : Nat) : hs_C0 hs_tvv l yX1_act wsX1_act rmX1_act (fun ad => [.ref (ad o), .int a1, .int a2, .ref (ad a3)]) σ (fX1_act fu σ o a1 a2 a3) := by
  intro X ad sz r τ hf
  refine hs_enter (cc := cX1_act) (maxL := 4) (ret := none) (by decide) rfl (Nat.le_of_ble_eq_true rfl) ?_
  intro p e s m below meth c ls C hl hem hB hS hsz
  exact wX1_act_e fu C hem σ o a1 a2 a3 hf hB hS hl
/-! ServiceGame$Machine.run(LServiceGame$Program;[II)I -/
abbrev rmX1_run : Room := { frames := 3, cells := 0, slots := 0, locals := 68 }
theorem inX1_run_X1 : ∀ w ∈ wsX10, w ∈ wsX1_run := fun _ h => List.mem_cons_of_mem _ (List.mem_append_right _ h)
theorem inX1_run_X3 : ∀ w ∈ wsX30, w ∈ wsX1_run := fun _ h => List.mem_cons_of_mem _ (List.mem_append_left _ (List.mem_append_right _ h))
theorem lkX1_run_0 : Cond.fieldLink RX1 64 "ServiceGame$Machine" "fuelUsed" "I" ∈ wsX1_run := by decide +kernel
theorem lkX1_run_1 : Cond.constant RX1 67 (1000000) ∈ wsX1_run := by decide +kernel
theorem lkX1_run_2 : Cond.fieldLink RX1 9 "ServiceGame$Machine" "pile" "[I" ∈ wsX1_run := by decide +kernel
theorem lkX1_run_3 : Cond.fieldLink RX1 40 "ServiceGame$Machine" "height" "I" ∈ wsX1_run := by decide +kernel
def fX1_run_154 (fu : Nat)  (σ : hs_T) (x1 : Nat) (x4 : Int32) : Option (Int32 × hs_T) :=
 (hs_gI σ 5 x1 0).bind fun v3 =>
 if v3 ≤ x4 then
 (some (10000, σ))
 else
 (some (10001, σ))
def fX1_run_137 (fu : Nat) (k6 : hs_T → Nat → Nat → Nat → Int32 → Int32 → Int32 → Option (Int32 × hs_T)) (σ : hs_T) (x0 : Nat) (x1 : Nat) (x2 : Nat) (x3 : Int32) (x5 : Int32) (x6 : Int32) (x7 : Int32) (y0 : Int32) : Option (Int32 × hs_T) :=
 (hs_ck σ 3 x0).bind fun _ =>
 hs_b2 (fX1_act fu σ x0 x6 x7 x2) fun _ σ30 =>
 k6 σ30 x0 x1 x2 x3 y0 (x5 + 1)
def fX1_run_121 (fu : Nat) (k6 : hs_T → Nat → Nat → Nat → Int32 → Int32 → Int32 → Option (Int32 × hs_T)) (σ : hs_T) (x0 : Nat) (x1 : Nat) (x2 : Nat) (x3 : Int32) (x4 : Int32) (x5 : Int32) (x6 : Int32) (x7 : Int32) (y0 : Int32) : Option (Int32 × hs_T) :=
 if y0 = 0 then
 (fX1_run_137 fu k6 σ x0 x1 x2 x3 x5 x6 x7 (x4 + 1))
 else
 (fX1_run_137 fu k6 σ x0 x1 x2 x3 x5 x6 x7 x7)
def fX1_run_116 (fu : Nat) (k6 : hs_T → Nat → Nat → Nat → Int32 → Int32 → Int32 → Option (Int32 × hs_T)) (σ : hs_T) (x0 : Nat) (x1 : Nat) (x2 : Nat) (x3 : Int32) (x4 : Int32) (x5 : Int32) (x6 : Int32) (x7 : Int32) : Option (Int32 × hs_T) :=
 fX1_run_121 fu k6 σ x0 x1 x2 x3 x4 x5 x6 x7 1
def fX1_run_120 (fu : Nat) (k6 : hs_T → Nat → Nat → Nat → Int32 → Int32 → Int32 → Option (Int32 × hs_T)) (σ : hs_T) (x0 : Nat) (x1 : Nat) (x2 : Nat) (x3 : Int32) (x4 : Int32) (x5 : Int32) (x6 : Int32) (x7 : Int32) : Option (Int32 × hs_T) :=
 fX1_run_121 fu k6 σ x0 x1 x2 x3 x4 x5 x6 x7 0
def fX1_run_6b (fu : Nat)  (k6 : hs_T → Nat → Nat → Nat → Int32 → Int32 → Int32 → Option (Int32 × hs_T)) (σ : hs_T) (x0 : Nat) (x1 : Nat) (x2 : Nat) (x3 : Int32) (x4 : Int32) (x5 : Int32) : Option (Int32 × hs_T) :=
 if x3 ≤ x5 then
 (fX1_run_154 fu σ x1 x4)
 else
 ((hs_gI σ 5 x1 0).bind fun v6 =>
 if v6 ≤ x4 then
 (fX1_run_154 fu σ x1 x4)
 else
 ((hs_gN σ 5 x1 1).bind fun n9 =>
 (hs_ld σ 11 n9 x4).bind fun v10 =>
 (hs_gN σ 5 x1 2).bind fun n13 =>
 (hs_ld σ 11 n13 x4).bind fun v14 =>
 (hs_gI σ 3 x0 5).bind fun v17 =>
 (hs_pI σ 3 x0 5 ((v17 + 1) - (v17 + 1) / 1000000 * 1000000)).bind fun σ19 =>
 (hs_ck σ19 3 x0).bind fun _ =>
 hs_b2 (fX1_pileSuits fu σ19 x0 v10) fun v23 σ21 =>
 if v23 = 0 then
 (some (10002, σ21))
 else
 (if v10 = 111 then
 ((hs_gN σ21 3 x0 0).bind fun n39 =>
 (hs_gI σ21 3 x0 2).bind fun v41 =>
 (hs_ld σ21 11 n39 (v41 - 1)).bind fun v42 =>
 some (v42, σ21))
 else
 (if v10 = 104 then
 (some (10000, σ21))
 else
 (if v10 = 103 then
 (fX1_run_116 fu k6 σ21 x0 x1 x2 x3 x4 x5 v10 v14)
 else
 (if v10 = 106 then
 ((hs_ck σ21 3 x0).bind fun _ =>
 hs_b2 (fX1_pull fu σ21 x0) fun v36 σ34 =>
 if v36 = 0 then
 (fX1_run_116 fu k6 σ34 x0 x1 x2 x3 x4 x5 v10 v14)
 else
 (fX1_run_120 fu k6 σ34 x0 x1 x2 x3 x4 x5 v10 v14))
 else
 (fX1_run_120 fu k6 σ21 x0 x1 x2 x3 x4 x5 v10 v14)))))))
def fX1_run_6 (fu : Nat)  (σ : hs_T) (x0 : Nat) (x1 : Nat) (x2 : Nat) (x3 : Int32) (x4 : Int32) (x5 : Int32) : Option (Int32 × hs_T) :=
   hs_lp (fun (k : hs_T × Nat × Nat × Nat × Int32 × Int32 × Int32 → Option (Int32 × hs_T)) (a : hs_T × Nat × Nat × Nat × Int32 × Int32 × Int32) => fX1_run_6b fu  (fun σ x0 x1 x2 x3 x4 x5 => k (σ, x0, x1, x2, x3, x4, x5)) a.1 a.2.1 a.2.2.1 a.2.2.2.1 a.2.2.2.2.1 a.2.2.2.2.2.1 a.2.2.2.2.2.2) fu (σ, x0, x1, x2, x3, x4, x5)
def fX1_run (fu : Nat) (σ : hs_T) (o : Nat) (a1 : Nat) (a2 : Nat) (a3 : Int32) : Option (Int32 × hs_T) :=
 fX1_run_6 fu σ o a1 a2 a3 0 0
section SX1_run
variable {p : Program} {l : Launch} {e : Env} {s : State} {m : MethodId} {args : Array Value} {below : List Frame} {meth : Method} {c : Code} {X : hs_X} {ad : Nat → Nat} {A : Nat → Prop} {r : Int32} {τ : hs_T}
set_option maxRecDepth 100000 in
set_option maxHeartbeats 4000000 in
theorem wX1_run_154 (fu : Nat) (C : hs_Cx p s m args meth c X A yX1_run cX1_run 9 (some .int) wsX1_run) (hem : ad hs_em = X.2.2.1.2.2.2)  {H : Heap} {locs : List Loc} {ls : Array Slot} (σ : hs_T) (x1 : Nat) (x4 : Int32) (hf : fX1_run_154 fu  σ x1 x4 = some (r, τ)) (hB : hs_H X.1 X.2.1 ad A σ H) (hS : va_S A s.heap H locs) (hl : lv_has ls 9 [(1, .ref (ad x1)), (4, .int x4)]) : W p l e rmX1_run s m args below meth c H locs 0 0 (MQ below (hs_Q0 hs_tvi X ad A r τ) args s 0 0 A) (F0 m 154 ls []) := by
  obtain ⟨hx, hb, hml, hr, hts, hown, hlk, hnm, hV, hA0, hA⟩ := id C
  have hown : s.vm.findClass RX1 = some m.cls := hown
  have hK := hV.1
  have hNw := hV.2.1
  unfold fX1_run_154 at hf
  refine lv_iload hx hb dX1_run_154 (lv_at hl 1 rfl) ?_
  refine lv_aload_n hx hb dX1_run_156 rfl (lv_at hl 0 rfl) ?_
  obtain ⟨v3, h2, hf⟩ := hs_bi hf
  refine x_getIN hx hb hts inX1_run_X3 hown hK hB (by decide) rfl (k := 0) (by decide) rfl h2 (hNw (.fieldLinkNest "ServiceGame$Machine" 53 "ServiceGame$Program" "size" "I" "ServiceGame") (by decide +kernel)) (fun _ h9 => h9) dX1_run_157 ?_
  refine lv_icmp_ge (tgt := 169) hx hb dX1_run_160 (by decide) (fun h4 => ?_) (fun h4 => ?_)
  · have hf := hs_tt h4 hf
    refine lv_sipush (v := 10000) hx hb dX1_run_169 (by decide) ?_
    obtain ⟨rfl, rfl⟩ := hs_ri hf
    exact hs_iret hx hb hr hlk hB hS dX1_run_172
  · have hf := hs_ff h4 hf
    refine lv_sipush (v := 10001) hx hb dX1_run_163 (by decide) ?_
    refine lv_goto (tgt := 172) hx hb dX1_run_166 (by decide) ?_
    obtain ⟨rfl, rfl⟩ := hs_ri hf
    exact hs_iret hx hb hr hlk hB hS dX1_run_172
set_option maxRecDepth 100000 in
set_option maxHeartbeats 4000000 in
theorem wX1_run_137 (fu : Nat) (C : hs_Cx p s m args meth c X A yX1_run cX1_run 9 (some .int) wsX1_run) (hem : ad hs_em = X.2.2.1.2.2.2) (k6 : hs_T → Nat → Nat → Nat → Int32 → Int32 → Int32 → Option (Int32 × hs_T)) (hk6 : ∀ (σ : hs_T) (x0 : Nat) (x1 : Nat) (x2 : Nat) (x3 : Int32) (x4 : Int32) (x5 : Int32) (H : Heap) (locs : List Loc) (ls : Array Slot), k6 σ x0 x1 x2 x3 x4 x5 = some (r, τ) → hs_H X.1 X.2.1 ad A σ H → va_S A s.heap H locs → lv_has ls 9 [(0, .ref (ad x0)), (1, .ref (ad x1)), (2, .ref (ad x2)), (3, .int x3), (4, .int x4), (5, .int x5)] → W p l e rmX1_run s m args below meth c H locs 0 0 (MQ below (hs_Q0 hs_tvi X ad A r τ) args s 0 0 A) (F0 m 6 ls [])) {H : Heap} {locs : List Loc} {ls : Array Slot} (σ : hs_T) (x0 : Nat) (x1 : Nat) (x2 : Nat) (x3 : Int32) (x5 : Int32) (x6 : Int32) (x7 : Int32) (y0 : Int32) (hf : fX1_run_137 fu k6 σ x0 x1 x2 x3 x5 x6 x7 y0 = some (r, τ)) (hB : hs_H X.1 X.2.1 ad A σ H) (hS : va_S A s.heap H locs) (hl : lv_has ls 9 [(0, .ref (ad x0)), (1, .ref (ad x1)), (2, .ref (ad x2)), (3, .int x3), (5, .int x5), (6, .int x6), (7, .int x7)]) : W p l e rmX1_run s m args below meth c H locs 0 0 (MQ below (hs_Q0 hs_tvi X ad A r τ) args s 0 0 A) (F0 m 137 ls [.int y0]) := by
  obtain ⟨hx, hb, hml, hr, hts, hown, hlk, hnm, hV, hA0, hA⟩ := id C
  have hown : s.vm.findClass RX1 = some m.cls := hown
  have hK := hV.1
  have hNw := hV.2.1
  unfold fX1_run_137 at hf
  refine lv_istore (lv' := [(4, .int y0), (0, .ref (ad x0)), (1, .ref (ad x1)), (2, .ref (ad x2)), (3, .int x3), (5, .int x5), (6, .int x6), (7, .int x7)]) hx hb dX1_run_137 hl (by decide) rfl (fun ls hl => ?_)
  refine lv_aload_n hx hb dX1_run_139 rfl (lv_at hl 1 rfl) ?_
  refine lv_iload hx hb dX1_run_140 (lv_at hl 6 rfl) ?_
  refine lv_iload hx hb dX1_run_142 (lv_at hl 7 rfl) ?_
  refine lv_aload_n hx hb dX1_run_144 rfl (lv_at hl 3 rfl) ?_
  obtain ⟨_, h31, hf⟩ := hs_bi hf
  obtain ⟨_, σ30, h29, hf⟩ := hs_b2i hf
  refine hs_call0 (va_runV (As := [.int x6, .int x7, .ref (ad x2)]) (rest := []) ⟨hx, hb, hml, hown, hts⟩ (ctX1_act l fu σ x0 x6 x7 x2 X ad H.size _ _ h29) (cwV 3 hts gX1_run_X1_act rfl rfl rfl (by decide +kernel) ⟨Nat.le_of_ble_eq_true rfl, Nat.le_of_ble_eq_true rfl⟩) (hs_preV (hs_recv hK hB (hs_ck_i h31) (by decide) rfl) hV hB hS hA0 hA hem) rfl rfl hl.1 rfl (lv_room (Nat.le_of_ble_eq_true rfl)) dX1_run_145 ⟨Nat.le_of_ble_eq_true rfl, Nat.le_of_ble_eq_true rfl⟩) hB hS hA rfl (fun H locs hB hS => ?_)
  refine lv_iinc (v := (x5 + 1)) (lv' := [(5, .int (x5 + 1)), (4, .int y0), (0, .ref (ad x0)), (1, .ref (ad x1)), (2, .ref (ad x2)), (3, .int x3), (6, .int x6), (7, .int x7)]) hx hb dX1_run_148 hl (k := 5) rfl rfl (by decide) rfl (fun ls hl => ?_)
  refine lv_goto (tgt := 6) hx hb dX1_run_151 (by decide) ?_
  exact hk6 σ30 x0 x1 x2 x3 y0 (x5 + 1) _ _ _ hf hB hS (lv_sub hl [2, 3, 4, 5, 1, 0] rfl)
set_option maxRecDepth 100000 in
set_option maxHeartbeats 4000000 in
theorem wX1_run_121 (fu : Nat) (C : hs_Cx p s m args meth c X A yX1_run cX1_run 9 (some .int) wsX1_run) (hem : ad hs_em = X.2.2.1.2.2.2) (k6 : hs_T → Nat → Nat → Nat → Int32 → Int32 → Int32 → Option (Int32 × hs_T)) (hk6 : ∀ (σ : hs_T) (x0 : Nat) (x1 : Nat) (x2 : Nat) (x3 : Int32) (x4 : Int32) (x5 : Int32) (H : Heap) (locs : List Loc) (ls : Array Slot), k6 σ x0 x1 x2 x3 x4 x5 = some (r, τ) → hs_H X.1 X.2.1 ad A σ H → va_S A s.heap H locs → lv_has ls 9 [(0, .ref (ad x0)), (1, .ref (ad x1)), (2, .ref (ad x2)), (3, .int x3), (4, .int x4), (5, .int x5)] → W p l e rmX1_run s m args below meth c H locs 0 0 (MQ below (hs_Q0 hs_tvi X ad A r τ) args s 0 0 A) (F0 m 6 ls [])) {H : Heap} {locs : List Loc} {ls : Array Slot} (σ : hs_T) (x0 : Nat) (x1 : Nat) (x2 : Nat) (x3 : Int32) (x4 : Int32) (x5 : Int32) (x6 : Int32) (x7 : Int32) (y0 : Int32) (hf : fX1_run_121 fu k6 σ x0 x1 x2 x3 x4 x5 x6 x7 y0 = some (r, τ)) (hB : hs_H X.1 X.2.1 ad A σ H) (hS : va_S A s.heap H locs) (hl : lv_has ls 9 [(0, .ref (ad x0)), (1, .ref (ad x1)), (2, .ref (ad x2)), (3, .int x3), (4, .int x4), (5, .int x5), (6, .int x6), (7, .int x7)]) : W p l e rmX1_run s m args below meth c H locs 0 0 (MQ below (hs_Q0 hs_tvi X ad A r τ) args s 0 0 A) (F0 m 121 ls [.int y0]) := by
  obtain ⟨hx, hb, hml, hr, hts, hown, hlk, hnm, hV, hA0, hA⟩ := id C
  have hown : s.vm.findClass RX1 = some m.cls := hown
  have hK := hV.1
  have hNw := hV.2.1
  unfold fX1_run_121 at hf
  refine lv_istore (lv' := [(8, .int y0), (0, .ref (ad x0)), (1, .ref (ad x1)), (2, .ref (ad x2)), (3, .int x3), (4, .int x4), (5, .int x5), (6, .int x6), (7, .int x7)]) hx hb dX1_run_121 hl (by decide) rfl (fun ls hl => ?_)
  refine lv_iload hx hb dX1_run_123 (lv_at hl 0 rfl) ?_
  refine lv_if_eq (tgt := 133) hx hb dX1_run_125 (by decide) (fun h28 => ?_) (fun h28 => ?_)
  · have hf := hs_tt h28 hf
    refine lv_iload hx hb dX1_run_133 (lv_at hl 5 rfl) ?_
    refine lv_iconst (v := 1) hx hb dX1_run_135 (by decide) ?_
    refine lv_iadd hx hb dX1_run_136 ?_
    exact wX1_run_137 fu C hem k6 hk6 σ x0 x1 x2 x3 x5 x6 x7 (x4 + 1) hf hB hS (lv_sub hl [1, 2, 3, 4, 6, 7, 8] rfl)
  · have hf := hs_ff h28 hf
    refine lv_iload hx hb dX1_run_128 (lv_at hl 8 rfl) ?_
    refine lv_goto (tgt := 137) hx hb dX1_run_130 (by decide) ?_
    exact wX1_run_137 fu C hem k6 hk6 σ x0 x1 x2 x3 x5 x6 x7 x7 hf hB hS (lv_sub hl [1, 2, 3, 4, 6, 7, 8] rfl)
set_option maxRecDepth 100000 in
set_option maxHeartbeats 4000000 in
theorem wX1_run_116 (fu : Nat) (C : hs_Cx p s m args meth c X A yX1_run cX1_run 9 (some .int) wsX1_run) (hem : ad hs_em = X.2.2.1.2.2.2) (k6 : hs_T → Nat → Nat → Nat → Int32 → Int32 → Int32 → Option (Int32 × hs_T)) (hk6 : ∀ (σ : hs_T) (x0 : Nat) (x1 : Nat) (x2 : Nat) (x3 : Int32) (x4 : Int32) (x5 : Int32) (H : Heap) (locs : List Loc) (ls : Array Slot), k6 σ x0 x1 x2 x3 x4 x5 = some (r, τ) → hs_H X.1 X.2.1 ad A σ H → va_S A s.heap H locs → lv_has ls 9 [(0, .ref (ad x0)), (1, .ref (ad x1)), (2, .ref (ad x2)), (3, .int x3), (4, .int x4), (5, .int x5)] → W p l e rmX1_run s m args below meth c H locs 0 0 (MQ below (hs_Q0 hs_tvi X ad A r τ) args s 0 0 A) (F0 m 6 ls [])) {H : Heap} {locs : List Loc} {ls : Array Slot} (σ : hs_T) (x0 : Nat) (x1 : Nat) (x2 : Nat) (x3 : Int32) (x4 : Int32) (x5 : Int32) (x6 : Int32) (x7 : Int32) (hf : fX1_run_116 fu k6 σ x0 x1 x2 x3 x4 x5 x6 x7 = some (r, τ)) (hB : hs_H X.1 X.2.1 ad A σ H) (hS : va_S A s.heap H locs) (hl : lv_has ls 9 [(0, .ref (ad x0)), (1, .ref (ad x1)), (2, .ref (ad x2)), (3, .int x3), (4, .int x4), (5, .int x5), (6, .int x6), (7, .int x7)]) : W p l e rmX1_run s m args below meth c H locs 0 0 (MQ below (hs_Q0 hs_tvi X ad A r τ) args s 0 0 A) (F0 m 116 ls []) := by
  obtain ⟨hx, hb, hml, hr, hts, hown, hlk, hnm, hV, hA0, hA⟩ := id C
  have hown : s.vm.findClass RX1 = some m.cls := hown
  have hK := hV.1
  have hNw := hV.2.1
  unfold fX1_run_116 at hf
  refine lv_iconst (v := 1) hx hb dX1_run_116 (by decide) ?_
  refine lv_goto (tgt := 121) hx hb dX1_run_117 (by decide) ?_
  exact wX1_run_121 fu C hem k6 hk6 σ x0 x1 x2 x3 x4 x5 x6 x7 1 hf hB hS hl
set_option maxRecDepth 100000 in
set_option maxHeartbeats 4000000 in
theorem wX1_run_120 (fu : Nat) (C : hs_Cx p s m args meth c X A yX1_run cX1_run 9 (some .int) wsX1_run) (hem : ad hs_em = X.2.2.1.2.2.2) (k6 : hs_T → Nat → Nat → Nat → Int32 → Int32 → Int32 → Option (Int32 × hs_T)) (hk6 : ∀ (σ : hs_T) (x0 : Nat) (x1 : Nat) (x2 : Nat) (x3 : Int32) (x4 : Int32) (x5 : Int32) (H : Heap) (locs : List Loc) (ls : Array Slot), k6 σ x0 x1 x2 x3 x4 x5 = some (r, τ) → hs_H X.1 X.2.1 ad A σ H → va_S A s.heap H locs → lv_has ls 9 [(0, .ref (ad x0)), (1, .ref (ad x1)), (2, .ref (ad x2)), (3, .int x3), (4, .int x4), (5, .int x5)] → W p l e rmX1_run s m args below meth c H locs 0 0 (MQ below (hs_Q0 hs_tvi X ad A r τ) args s 0 0 A) (F0 m 6 ls [])) {H : Heap} {locs : List Loc} {ls : Array Slot} (σ : hs_T) (x0 : Nat) (x1 : Nat) (x2 : Nat) (x3 : Int32) (x4 : Int32) (x5 : Int32) (x6 : Int32) (x7 : Int32) (hf : fX1_run_120 fu k6 σ x0 x1 x2 x3 x4 x5 x6 x7 = some (r, τ)) (hB : hs_H X.1 X.2.1 ad A σ H) (hS : va_S A s.heap H locs) (hl : lv_has ls 9 [(0, .ref (ad x0)), (1, .ref (ad x1)), (2, .ref (ad x2)), (3, .int x3), (4, .int x4), (5, .int x5), (6, .int x6), (7, .int x7)]) : W p l e rmX1_run s m args below meth c H locs 0 0 (MQ below (hs_Q0 hs_tvi X ad A r τ) args s 0 0 A) (F0 m 120 ls []) := by
  obtain ⟨hx, hb, hml, hr, hts, hown, hlk, hnm, hV, hA0, hA⟩ := id C
  have hown : s.vm.findClass RX1 = some m.cls := hown
  have hK := hV.1
  have hNw := hV.2.1
  unfold fX1_run_120 at hf
  refine lv_iconst (v := 0) hx hb dX1_run_120 (by decide) ?_
  exact wX1_run_121 fu C hem k6 hk6 σ x0 x1 x2 x3 x4 x5 x6 x7 0 hf hB hS hl
set_option maxRecDepth 100000 in
set_option maxHeartbeats 4000000 in
theorem wX1_run_6b (fu : Nat) (C : hs_Cx p s m args meth c X A yX1_run cX1_run 9 (some .int) wsX1_run) (hem : ad hs_em = X.2.2.1.2.2.2)  (k6 : hs_T → Nat → Nat → Nat → Int32 → Int32 → Int32 → Option (Int32 × hs_T)) (hk6 : ∀ (σ : hs_T) (x0 : Nat) (x1 : Nat) (x2 : Nat) (x3 : Int32) (x4 : Int32) (x5 : Int32) (H : Heap) (locs : List Loc) (ls : Array Slot), k6 σ x0 x1 x2 x3 x4 x5 = some (r, τ) → hs_H X.1 X.2.1 ad A σ H → va_S A s.heap H locs → lv_has ls 9 [(0, .ref (ad x0)), (1, .ref (ad x1)), (2, .ref (ad x2)), (3, .int x3), (4, .int x4), (5, .int x5)] → W p l e rmX1_run s m args below meth c H locs 0 0 (MQ below (hs_Q0 hs_tvi X ad A r τ) args s 0 0 A) (F0 m 6 ls [])) {H : Heap} {locs : List Loc} {ls : Array Slot} (σ : hs_T) (x0 : Nat) (x1 : Nat) (x2 : Nat) (x3 : Int32) (x4 : Int32) (x5 : Int32) (hf : fX1_run_6b fu  k6 σ x0 x1 x2 x3 x4 x5 = some (r, τ)) (hB : hs_H X.1 X.2.1 ad A σ H) (hS : va_S A s.heap H locs) (hl : lv_has ls 9 [(0, .ref (ad x0)), (1, .ref (ad x1)), (2, .ref (ad x2)), (3, .int x3), (4, .int x4), (5, .int x5)]) : W p l e rmX1_run s m args below meth c H locs 0 0 (MQ below (hs_Q0 hs_tvi X ad A r τ) args s 0 0 A) (F0 m 6 ls []) := by
  obtain ⟨hx, hb, hml, hr, hts, hown, hlk, hnm, hV, hA0, hA⟩ := id C
  have hown : s.vm.findClass RX1 = some m.cls := hown
  have hK := hV.1
  have hNw := hV.2.1
  unfold fX1_run_6b at hf
  refine lv_iload hx hb dX1_run_6 (lv_at hl 5 rfl) ?_
  refine lv_iload_n hx hb dX1_run_8 rfl (lv_at hl 3 rfl) ?_
  refine lv_icmp_ge (tgt := 154) hx hb dX1_run_9 (by decide) (fun h1 => ?_) (fun h1 => ?_)
  · have hf := hs_tt h1 hf
    exact wX1_run_154 fu C hem σ x1 x4 hf hB hS (lv_sub hl [1, 4] rfl)
  · have hf := hs_ff h1 hf
    refine lv_iload hx hb dX1_run_12 (lv_at hl 4 rfl) ?_
    refine lv_aload_n hx hb dX1_run_14 rfl (lv_at hl 1 rfl) ?_
    obtain ⟨v6, h5, hf⟩ := hs_bi hf
    refine x_getIN hx hb hts inX1_run_X3 hown hK hB (by decide) rfl (k := 0) (by decide) rfl h5 (hNw (.fieldLinkNest "ServiceGame$Machine" 53 "ServiceGame$Program" "size" "I" "ServiceGame") (by decide +kernel)) (fun _ h9 => h9) dX1_run_15 ?_
    refine lv_icmp_ge (tgt := 154) hx hb dX1_run_18 (by decide) (fun h7 => ?_) (fun h7 => ?_)
    · have hf := hs_tt h7 hf
      exact wX1_run_154 fu C hem σ x1 x4 hf hB hS (lv_sub hl [1, 4] rfl)
    · have hf := hs_ff h7 hf
      refine lv_aload_n hx hb dX1_run_21 rfl (lv_at hl 1 rfl) ?_
      obtain ⟨n9, h8, hf⟩ := hs_bi hf
      refine x_getNN hx hb hts inX1_run_X3 hown hK hB (by decide) rfl (k := 1) (by decide) rfl h8 (hNw (.fieldLinkNest "ServiceGame$Machine" 58 "ServiceGame$Program" "signs" "[I" "ServiceGame") (by decide +kernel)) (fun _ h9 => h9) dX1_run_22 ?_
      refine lv_iload hx hb dX1_run_25 (lv_at hl 4 rfl) ?_
      obtain ⟨v10, h11, hf⟩ := hs_bi hf
      refine x_iald hx hb hK hB h11 dX1_run_27 ?_
      refine lv_istore (lv' := [(6, .int v10), (0, .ref (ad x0)), (1, .ref (ad x1)), (2, .ref (ad x2)), (3, .int x3), (4, .int x4), (5, .int x5)]) hx hb dX1_run_28 hl (by decide) rfl (fun ls hl => ?_)
      refine lv_aload_n hx hb dX1_run_30 rfl (lv_at hl 2 rfl) ?_
      obtain ⟨n13, h12, hf⟩ := hs_bi hf
      refine x_getNN hx hb hts inX1_run_X3 hown hK hB (by decide) rfl (k := 2) (by decide) rfl h12 (hNw (.fieldLinkNest "ServiceGame$Machine" 61 "ServiceGame$Program" "numbers" "[I" "ServiceGame") (by decide +kernel)) (fun _ h9 => h9) dX1_run_31 ?_
      refine lv_iload hx hb dX1_run_34 (lv_at hl 5 rfl) ?_
      obtain ⟨v14, h15, hf⟩ := hs_bi hf
      refine x_iald hx hb hK hB h15 dX1_run_36 ?_
      refine lv_istore (lv' := [(7, .int v14), (6, .int v10), (0, .ref (ad x0)), (1, .ref (ad x1)), (2, .ref (ad x2)), (3, .int x3), (4, .int x4), (5, .int x5)]) hx hb dX1_run_37 hl (by decide) rfl (fun ls hl => ?_)
      refine lv_aload_n hx hb dX1_run_39 rfl (lv_at hl 2 rfl) ?_
      refine lv_aload_n hx hb dX1_run_40 rfl (lv_at hl 2 rfl) ?_
      obtain ⟨v17, h16, hf⟩ := hs_bi hf
      refine x_getI hx hb hts inX1_run_X1 hown hK hB (by decide) rfl (k := 5) (by decide) rfl h16 (hts _ lkX1_run_0) (fun _ h9 => h9) dX1_run_41 ?_
      refine lv_iconst (v := 1) hx hb dX1_run_44 (by decide) ?_
      refine lv_iadd hx hb dX1_run_45 ?_
      refine lv_ldc hx hb hown (hts _ lkX1_run_1) dX1_run_46 ?_
      refine lv_irem hx hb dX1_run_48 (by decide) ?_
      obtain ⟨σ19, h18, hf⟩ := hs_bi hf
      refine x_putI hx hb hts inX1_run_X1 tyX1_ok nmX1 hown hK hB hS (by decide) rfl (k := 5) (by decide) rfl h18 (hts _ lkX1_run_0) (fun _ h9 => h9) rfl (by decide +kernel) dX1_run_49 (fun H locs hB hS => ?_)
      refine lv_aload_n hx hb dX1_run_52 rfl (lv_at hl 2 rfl) ?_
      refine lv_iload hx hb dX1_run_53 (lv_at hl 1 rfl) ?_
      obtain ⟨_, h22, hf⟩ := hs_bi hf
      obtain ⟨v23, σ21, h20, hf⟩ := hs_b2i hf
      refine hs_call0 (va_runV (As := [.int v10]) (rest := []) ⟨hx, hb, hml, hown, hts⟩ (ctX1_pileSuits l fu σ19 x0 v10 X ad H.size _ _ h20) (cwV 1 hts gX1_run_X1_pileSuits rfl rfl rfl (by decide +kernel) ⟨Nat.le_of_ble_eq_true rfl, Nat.le_of_ble_eq_true rfl⟩) (hs_preV (hs_recv hK hB (hs_ck_i h22) (by decide) rfl) hV hB hS hA0 hA hem) rfl rfl hl.1 rfl (lv_room (Nat.le_of_ble_eq_true rfl)) dX1_run_55 ⟨Nat.le_of_ble_eq_true rfl, Nat.le_of_ble_eq_true rfl⟩) hB hS hA rfl (fun H locs hB hS => ?_)
      refine lv_if_ne (tgt := 65) hx hb dX1_run_58 (by decide) (fun h24 => ?_) (fun h24 => ?_)
      · have hf := hs_ff h24 hf
        refine lv_iload hx hb dX1_run_65 (lv_at hl 1 rfl) ?_
        refine lv_bipush (v := 111) hx hb dX1_run_67 (by decide) ?_
        refine lv_icmp_ne (tgt := 84) hx hb dX1_run_69 (by decide) (fun h25 => ?_) (fun h25 => ?_)
        · have hf := hs_ff h25 hf
          refine lv_iload hx hb dX1_run_84 (lv_at hl 1 rfl) ?_
          refine lv_bipush (v := 104) hx hb dX1_run_86 (by decide) ?_
          refine lv_icmp_ne (tgt := 95) hx hb dX1_run_88 (by decide) (fun h26 => ?_) (fun h26 => ?_)
          · have hf := hs_ff h26 hf
            refine lv_iload hx hb dX1_run_95 (lv_at hl 1 rfl) ?_
            refine lv_bipush (v := 103) hx hb dX1_run_97 (by decide) ?_
            refine lv_icmp_eq (tgt := 116) hx hb dX1_run_99 (by decide) (fun h27 => ?_) (fun h27 => ?_)
            · have hf := hs_tt h27 hf
              exact wX1_run_116 fu C hem k6 hk6 σ21 x0 x1 x2 x3 x4 x5 v10 v14 hf hB hS (lv_sub hl [2, 3, 4, 5, 6, 7, 1, 0] rfl)
            · have hf := hs_ff h27 hf
              refine lv_iload hx hb dX1_run_102 (lv_at hl 1 rfl) ?_
              refine lv_bipush (v := 106) hx hb dX1_run_104 (by decide) ?_
              refine lv_icmp_ne (tgt := 120) hx hb dX1_run_106 (by decide) (fun h32 => ?_) (fun h32 => ?_)
              · have hf := hs_ff h32 hf
                exact wX1_run_120 fu C hem k6 hk6 σ21 x0 x1 x2 x3 x4 x5 v10 v14 hf hB hS (lv_sub hl [2, 3, 4, 5, 6, 7, 1, 0] rfl)
              · have hf := hs_tt h32 hf
                refine lv_aload_n hx hb dX1_run_109 rfl (lv_at hl 2 rfl) ?_
                obtain ⟨_, h35, hf⟩ := hs_bi hf
                obtain ⟨v36, σ34, h33, hf⟩ := hs_b2i hf
                refine hs_call0 (va_runV (As := []) (rest := []) ⟨hx, hb, hml, hown, hts⟩ (ctX1_pull l fu σ21 x0 X ad H.size _ _ h33) (cwV 0 hts gX1_run_X1_pull rfl rfl rfl (by decide +kernel) ⟨Nat.le_of_ble_eq_true rfl, Nat.le_of_ble_eq_true rfl⟩) (hs_preV (hs_recv hK hB (hs_ck_i h35) (by decide) rfl) hV hB hS hA0 hA hem) rfl rfl hl.1 rfl (lv_room (Nat.le_of_ble_eq_true rfl)) dX1_run_110 ⟨Nat.le_of_ble_eq_true rfl, Nat.le_of_ble_eq_true rfl⟩) hB hS hA rfl (fun H locs hB hS => ?_)
                refine lv_if_ne (tgt := 120) hx hb dX1_run_113 (by decide) (fun h37 => ?_) (fun h37 => ?_)
                · have hf := hs_ff h37 hf
                  exact wX1_run_120 fu C hem k6 hk6 σ34 x0 x1 x2 x3 x4 x5 v10 v14 hf hB hS (lv_sub hl [2, 3, 4, 5, 6, 7, 1, 0] rfl)
                · have hf := hs_tt h37 hf
                  exact wX1_run_116 fu C hem k6 hk6 σ34 x0 x1 x2 x3 x4 x5 v10 v14 hf hB hS (lv_sub hl [2, 3, 4, 5, 6, 7, 1, 0] rfl)
          · have hf := hs_tt h26 hf
            refine lv_sipush (v := 10000) hx hb dX1_run_91 (by decide) ?_
            obtain ⟨rfl, rfl⟩ := hs_ri hf
            exact hs_iret hx hb hr hlk hB hS dX1_run_94
        · have hf := hs_tt h25 hf
          refine lv_aload_n hx hb dX1_run_72 rfl (lv_at hl 2 rfl) ?_
          obtain ⟨n39, h38, hf⟩ := hs_bi hf
          refine x_getN hx hb hts inX1_run_X1 hown hK hB (by decide) rfl (k := 0) (by decide) rfl h38 (hts _ lkX1_run_2) (fun _ h9 => h9) dX1_run_73 ?_
          refine lv_aload_n hx hb dX1_run_76 rfl (lv_at hl 2 rfl) ?_
          obtain ⟨v41, h40, hf⟩ := hs_bi hf
          refine x_getI hx hb hts inX1_run_X1 hown hK hB (by decide) rfl (k := 2) (by decide) rfl h40 (hts _ lkX1_run_3) (fun _ h9 => h9) dX1_run_77 ?_
          refine lv_iconst (v := 1) hx hb dX1_run_80 (by decide) ?_
          refine lv_isub hx hb dX1_run_81 ?_
          obtain ⟨v42, h43, hf⟩ := hs_bi hf
          refine x_iald hx hb hK hB h43 dX1_run_82 ?_
          obtain ⟨rfl, rfl⟩ := hs_ri hf
          exact hs_iret hx hb hr hlk hB hS dX1_run_83
      · have hf := hs_tt h24 hf
        refine lv_sipush (v := 10002) hx hb dX1_run_61 (by decide) ?_
        obtain ⟨rfl, rfl⟩ := hs_ri hf
        exact hs_iret hx hb hr hlk hB hS dX1_run_64
set_option maxRecDepth 100000 in
set_option maxHeartbeats 4000000 in
theorem wX1_run_6 (fu : Nat) (C : hs_Cx p s m args meth c X A yX1_run cX1_run 9 (some .int) wsX1_run) (hem : ad hs_em = X.2.2.1.2.2.2)  {H : Heap} {locs : List Loc} {ls : Array Slot} (σ : hs_T) (x0 : Nat) (x1 : Nat) (x2 : Nat) (x3 : Int32) (x4 : Int32) (x5 : Int32) (hf : fX1_run_6 fu  σ x0 x1 x2 x3 x4 x5 = some (r, τ)) (hB : hs_H X.1 X.2.1 ad A σ H) (hS : va_S A s.heap H locs) (hl : lv_has ls 9 [(0, .ref (ad x0)), (1, .ref (ad x1)), (2, .ref (ad x2)), (3, .int x3), (4, .int x4), (5, .int x5)]) : W p l e rmX1_run s m args below meth c H locs 0 0 (MQ below (hs_Q0 hs_tvi X ad A r τ) args s 0 0 A) (F0 m 6 ls []) := by
  unfold fX1_run_6 at hf
  exact hs_lp_i (P := fun a => ∀ (H : Heap) (locs : List Loc) (ls : Array Slot), hs_H X.1 X.2.1 ad A a.1 H → va_S A s.heap H locs → lv_has ls 9 [(0, .ref (ad a.2.1)), (1, .ref (ad a.2.2.1)), (2, .ref (ad a.2.2.2.1)), (3, .int a.2.2.2.2.1), (4, .int a.2.2.2.2.2.1), (5, .int a.2.2.2.2.2.2)] → W p l e rmX1_run s m args below meth c H locs 0 0 (MQ below (hs_Q0 hs_tvi X ad A r τ) args s 0 0 A) (F0 m 6 ls [])) (fun k a hk hf H locs ls hB hS hl => wX1_run_6b fu C hem  _ (fun σ x0 x1 x2 x3 x4 x5 H locs ls hf hB hS hl => hk (σ, x0, x1, x2, x3, x4, x5) hf H locs ls hB hS hl) a.1 a.2.1 a.2.2.1 a.2.2.2.1 a.2.2.2.2.1 a.2.2.2.2.2.1 a.2.2.2.2.2.2 hf hB hS hl) fu (σ, x0, x1, x2, x3, x4, x5) hf H locs ls hB hS hl
set_option maxRecDepth 100000 in
set_option maxHeartbeats 4000000 in
theorem wX1_run_e (fu : Nat) (C : hs_Cx p s m args meth c X A yX1_run cX1_run 9 (some .int) wsX1_run) (hem : ad hs_em = X.2.2.1.2.2.2) {H : Heap} {locs : List Loc} {ls : Array Slot} (σ : hs_T) (o : Nat) (a1 : Nat) (a2 : Nat) (a3 : Int32) (hf : fX1_run fu σ o a1 a2 a3 = some (r, τ)) (hB : hs_H X.1 X.2.1 ad A σ H) (hS : va_S A s.heap H locs) (hl : lv_has ls 9 [(0, .ref (ad o)), (1, .ref (ad a1)), (2, .ref (ad a2)), (3, .int a3)]) : W p l e rmX1_run s m args below meth c H locs 0 0 (MQ below (hs_Q0 hs_tvi X ad A r τ) args s 0 0 A) (F0 m 0 ls []) := by
  obtain ⟨hx, hb, hml, hr, hts, hown, hlk, hnm, hV, hA0, hA⟩ := id C
  have hown : s.vm.findClass RX1 = some m.cls := hown
  have hK := hV.1
  have hNw := hV.2.1
  unfold fX1_run at hf
  refine lv_iconst (v := 0) hx hb dX1_run_0 (by decide) ?_
  refine lv_istore (lv' := [(4, .int 0), (0, .ref (ad o)), (1, .ref (ad a1)), (2, .ref (ad a2)), (3, .int a3)]) hx hb dX1_run_1 hl (by decide) rfl (fun ls hl => ?_)
  refine lv_iconst (v := 0) hx hb dX1_run_3 (by decide) ?_
  refine lv_istore (lv' := [(5, .int 0), (4, .int 0), (0, .ref (ad o)), (1, .ref (ad a1)), (2, .ref (ad a2)), (3, .int a3)]) hx hb dX1_run_4 hl (by decide) rfl (fun ls hl => ?_)
  exact wX1_run_6 fu C hem σ o a1 a2 a3 0 0 hf hB hS (lv_sub hl [2, 3, 4, 5, 1, 0] rfl)
end SX1_run
set_option maxRecDepth 100000 in
theorem ctX1_run (l : Launch) (fu : Nat) (σ : hs_T) (o : Nat) (a1 : Nat) (a2 : Nat) (a3 : Int32) : hs_C0 hs_tvi l yX1_run wsX1_run rmX1_run (fun ad => [.ref (ad o), .ref (ad a1), .ref (ad a2), .int a3]) σ (fX1_run fu σ o a1 a2 a3) := by
  intro X ad sz r τ hf
  refine hs_enter (cc := cX1_run) (maxL := 9) (ret := (some .int)) (by decide) rfl (Nat.le_of_ble_eq_true rfl) ?_
  intro p e s m below meth c ls C hl hem hB hS hsz
  exact wX1_run_e fu C hem σ o a1 a2 a3 hf hB hS hl
/-! ServiceGame$Machine.deliver(LServiceGame$Service;III)I -/
abbrev rmX1_deliver : Room := { frames := 4, cells := 0, slots := 0, locals := 96 }
theorem inX1_deliver_X1 : ∀ w ∈ wsX10, w ∈ wsX1_deliver := fun _ h => List.mem_cons_of_mem _ (List.mem_append_left _ (List.mem_append_right _ h))
theorem inX1_deliver_X5 : ∀ w ∈ wsX50, w ∈ wsX1_deliver := fun _ h => List.mem_cons_of_mem _ (List.mem_append_left _ (List.mem_append_left _ (List.mem_append_right _ h)))
theorem lkX1_deliver_0 : Cond.fieldLink RX1 15 "ServiceGame$Machine" "cellsAhead" "[I" ∈ wsX1_deliver := by decide +kernel
theorem lkX1_deliver_1 : Cond.methodLink RX1 27 arraycopyName ∈ wsX1_deliver := by decide +kernel
theorem lkX1_deliver_2 : Cond.native arraycopyName ∈ wsX1_deliver := by decide +kernel
theorem lkX1_deliver_3 : Cond.static arraycopyName ∈ wsX1_deliver := by decide +kernel
theorem lkX1_deliver_4 : Cond.initialized "java/lang/System" ∈ wsX1_deliver := by decide +kernel
theorem lkX1_deliver_5 : Cond.fieldLink RX1 33 "ServiceGame$Machine" "first" "I" ∈ wsX1_deliver := by decide +kernel
theorem lkX1_deliver_6 : Cond.fieldLink RX1 37 "ServiceGame$Machine" "second" "I" ∈ wsX1_deliver := by decide +kernel
theorem lkX1_deliver_7 : Cond.fieldLink RX1 40 "ServiceGame$Machine" "height" "I" ∈ wsX1_deliver := by decide +kernel
def fX1_deliver (fu : Nat) (σ : hs_T) (o : Nat) (a1 : Nat) (a2 : Int32) (a3 : Int32) (a4 : Int32) : Option (Int32 × hs_T) :=
 (hs_gR σ 7 a1 9).bind fun r2 => hs_mt r2
 (some (10000, σ))
 (fun n3 =>
 (hs_gN σ 7 a1 2).bind fun n5 =>
 (hs_gN σ 3 o 1).bind fun n7 =>
 (hs_cp σ n5 0 n7 0 8).bind fun σ8 =>
 (hs_pI σ8 3 o 3 a2).bind fun σ11 =>
 (hs_pI σ11 3 o 4 a3).bind fun σ13 =>
 (hs_pI σ13 3 o 2 0).bind fun σ15 =>
 (hs_gR σ15 7 a1 9).bind fun r17 => hs_mt r17
 ((hs_gN σ15 7 a1 2).bind fun n20 =>
 none)
 (fun n18 =>
 (hs_gN σ15 7 a1 2).bind fun n22 =>
 (hs_ck σ15 3 o).bind fun _ =>
 hs_b2 (fX1_run fu σ15 o n18 n22 a4) fun v26 σ24 =>
 if v26 = 10002 then
 ((hs_gN σ24 3 o 1).bind fun n34 =>
 (hs_gN σ24 7 a1 2).bind fun n36 =>
 (hs_cp σ24 n34 0 n36 0 8).bind fun σ37 =>
 (hs_gI σ37 7 a1 11).bind fun v40 =>
 (hs_pI σ37 7 a1 11 (v40 + 1)).bind fun σ42 =>
 some (v26, σ42))
 else
 (if v26 = 10001 then
 ((hs_gI σ24 7 a1 12).bind fun v30 =>
 (hs_pI σ24 7 a1 12 (v30 + 1)).bind fun σ32 =>
 some (v26, σ32))
 else
 (some (v26, σ24)))))
section SX1_deliver
variable {p : Program} {l : Launch} {e : Env} {s : State} {m : MethodId} {args : Array Value} {below : List Frame} {meth : Method} {c : Code} {X : hs_X} {ad : Nat → Nat} {A : Nat → Prop} {r : Int32} {τ : hs_T}
set_option maxRecDepth 100000 in
set_option maxHeartbeats 4000000 in
theorem wX1_deliver_e (fu : Nat) (C : hs_Cx p s m args meth c X A yX1_deliver cX1_deliver 6 (some .int) wsX1_deliver) (hem : ad hs_em = X.2.2.1.2.2.2) {H : Heap} {locs : List Loc} {ls : Array Slot} (σ : hs_T) (o : Nat) (a1 : Nat) (a2 : Int32) (a3 : Int32) (a4 : Int32) (hf : fX1_deliver fu σ o a1 a2 a3 a4 = some (r, τ)) (hB : hs_H X.1 X.2.1 ad A σ H) (hS : va_S A s.heap H locs) (hl : lv_has ls 6 [(0, .ref (ad o)), (1, .ref (ad a1)), (2, .int a2), (3, .int a3), (4, .int a4)]) : W p l e rmX1_deliver s m args below meth c H locs 0 0 (MQ below (hs_Q0 hs_tvi X ad A r τ) args s 0 0 A) (F0 m 0 ls []) := by
  obtain ⟨hx, hb, hml, hr, hts, hown, hlk, hnm, hV, hA0, hA⟩ := id C
  have hown : s.vm.findClass RX1 = some m.cls := hown
  have hK := hV.1
  have hNw := hV.2.1
  unfold fX1_deliver at hf
  refine lv_aload_n hx hb dX1_deliver_0 rfl (lv_at hl 1 rfl) ?_
  obtain ⟨r2, h1, hf⟩ := hs_bi hf
  cases r2 with
  | none =>
    have hf := hs_mn hf
    refine x_getRnN hx hb hts inX1_deliver_X5 hown hK hB (by decide) rfl (k := 9) (by decide) rfl h1 (hNw (.fieldLinkNest "ServiceGame$Machine" 18 "ServiceGame$Service" "program" "LServiceGame$Program;" "ServiceGame") (by decide +kernel)) (fun _ h9 => h9) dX1_deliver_1 ?_
    refine lv_ifnonnullN hx hb dX1_deliver_4 ?_
    refine lv_sipush (v := 10000) hx hb dX1_deliver_7 (by decide) ?_
    obtain ⟨rfl, rfl⟩ := hs_ri hf
    exact hs_iret hx hb hr hlk hB hS dX1_deliver_10
  | some n3 =>
    have hf := hs_ms hf
    refine x_getRsN hx hb hts inX1_deliver_X5 hown hK hB (by decide) rfl (k := 9) (by decide) rfl h1 (hNw (.fieldLinkNest "ServiceGame$Machine" 18 "ServiceGame$Service" "program" "LServiceGame$Program;" "ServiceGame") (by decide +kernel)) (fun _ h9 => h9) dX1_deliver_1 ?_
    refine lv_ifnonnull (tgt := 11) hx hb dX1_deliver_4 (by decide) ?_
    refine lv_aload_n hx hb dX1_deliver_11 rfl (lv_at hl 1 rfl) ?_
    obtain ⟨n5, h4, hf⟩ := hs_bi hf
    refine x_getNN hx hb hts inX1_deliver_X5 hown hK hB (by decide) rfl (k := 2) (by decide) rfl h4 (hNw (.fieldLinkNest "ServiceGame$Machine" 24 "ServiceGame$Service" "cells" "[I" "ServiceGame") (by decide +kernel)) (fun _ h9 => h9) dX1_deliver_12 ?_
    refine lv_iconst (v := 0) hx hb dX1_deliver_15 (by decide) ?_
    refine lv_aload_n hx hb dX1_deliver_16 rfl (lv_at hl 0 rfl) ?_
    obtain ⟨n7, h6, hf⟩ := hs_bi hf
    refine x_getN hx hb hts inX1_deliver_X1 hown hK hB (by decide) rfl (k := 1) (by decide) rfl h6 (hts _ lkX1_deliver_0) (fun _ h9 => h9) dX1_deliver_17 ?_
    refine lv_iconst (v := 0) hx hb dX1_deliver_20 (by decide) ?_
    refine lv_bipush (v := 8) hx hb dX1_deliver_21 (by decide) ?_
    obtain ⟨σ8, h9, hf⟩ := hs_bi hf
    refine x_copy hx hb (hml.trans hl.1.symm) hown (hts _ lkX1_deliver_1) (hts _ lkX1_deliver_2) (hts _ lkX1_deliver_3) (hts _ lkX1_deliver_4) hK hB hS h9 (Nat.le_of_ble_eq_true rfl) (Nat.le_of_ble_eq_true rfl) dX1_deliver_23 (fun H locs hB hS => ?_)
    refine lv_aload_n hx hb dX1_deliver_26 rfl (lv_at hl 0 rfl) ?_
    refine lv_iload_n hx hb dX1_deliver_27 rfl (lv_at hl 2 rfl) ?_
    obtain ⟨σ11, h10, hf⟩ := hs_bi hf
    refine x_putI hx hb hts inX1_deliver_X1 tyX1_ok nmX1 hown hK hB hS (by decide) rfl (k := 3) (by decide) rfl h10 (hts _ lkX1_deliver_5) (fun _ h9 => h9) rfl (by decide +kernel) dX1_deliver_28 (fun H locs hB hS => ?_)
    refine lv_aload_n hx hb dX1_deliver_31 rfl (lv_at hl 0 rfl) ?_
    refine lv_iload_n hx hb dX1_deliver_32 rfl (lv_at hl 3 rfl) ?_
    obtain ⟨σ13, h12, hf⟩ := hs_bi hf
    refine x_putI hx hb hts inX1_deliver_X1 tyX1_ok nmX1 hown hK hB hS (by decide) rfl (k := 4) (by decide) rfl h12 (hts _ lkX1_deliver_6) (fun _ h9 => h9) rfl (by decide +kernel) dX1_deliver_33 (fun H locs hB hS => ?_)
    refine lv_aload_n hx hb dX1_deliver_36 rfl (lv_at hl 0 rfl) ?_
    refine lv_iconst (v := 0) hx hb dX1_deliver_37 (by decide) ?_
    obtain ⟨σ15, h14, hf⟩ := hs_bi hf
    refine x_putI hx hb hts inX1_deliver_X1 tyX1_ok nmX1 hown hK hB hS (by decide) rfl (k := 2) (by decide) rfl h14 (hts _ lkX1_deliver_7) (fun _ h9 => h9) rfl (by decide +kernel) dX1_deliver_38 (fun H locs hB hS => ?_)
    refine lv_aload_n hx hb dX1_deliver_41 rfl (lv_at hl 0 rfl) ?_
    refine lv_aload_n hx hb dX1_deliver_42 rfl (lv_at hl 1 rfl) ?_
    obtain ⟨r17, h16, hf⟩ := hs_bi hf
    cases r17 with
    | none =>
      have hf := hs_mn hf
      refine x_getRnN hx hb hts inX1_deliver_X5 hown hK hB (by decide) rfl (k := 9) (by decide) rfl h16 (hNw (.fieldLinkNest "ServiceGame$Machine" 18 "ServiceGame$Service" "program" "LServiceGame$Program;" "ServiceGame") (by decide +kernel)) (fun _ h9 => h9) dX1_deliver_43 ?_
      refine lv_aload_n hx hb dX1_deliver_46 rfl (lv_at hl 1 rfl) ?_
      obtain ⟨n20, h19, hf⟩ := hs_bi hf
      refine x_getNN hx hb hts inX1_deliver_X5 hown hK hB (by decide) rfl (k := 2) (by decide) rfl h19 (hNw (.fieldLinkNest "ServiceGame$Machine" 24 "ServiceGame$Service" "cells" "[I" "ServiceGame") (by decide +kernel)) (fun _ h9 => h9) dX1_deliver_47 ?_
      refine lv_iload hx hb dX1_deliver_50 (lv_at hl 4 rfl) ?_
      cases hf
    | some n18 =>
      have hf := hs_ms hf
      refine x_getRsN hx hb hts inX1_deliver_X5 hown hK hB (by decide) rfl (k := 9) (by decide) rfl h16 (hNw (.fieldLinkNest "ServiceGame$Machine" 18 "ServiceGame$Service" "program" "LServiceGame$Program;" "ServiceGame") (by decide +kernel)) (fun _ h9 => h9) dX1_deliver_43 ?_
      refine lv_aload_n hx hb dX1_deliver_46 rfl (lv_at hl 1 rfl) ?_
      obtain ⟨n22, h21, hf⟩ := hs_bi hf
      refine x_getNN hx hb hts inX1_deliver_X5 hown hK hB (by decide) rfl (k := 2) (by decide) rfl h21 (hNw (.fieldLinkNest "ServiceGame$Machine" 24 "ServiceGame$Service" "cells" "[I" "ServiceGame") (by decide +kernel)) (fun _ h9 => h9) dX1_deliver_47 ?_
      refine lv_iload hx hb dX1_deliver_50 (lv_at hl 4 rfl) ?_
      obtain ⟨_, h25, hf⟩ := hs_bi hf
      obtain ⟨v26, σ24, h23, hf⟩ := hs_b2i hf
      refine hs_call0 (va_runV (As := [.ref (ad n18), .ref (ad n22), .int a4]) (rest := []) ⟨hx, hb, hml, hown, hts⟩ (ctX1_run l fu σ15 o n18 n22 a4 X ad H.size _ _ h23) (cwV 3 hts gX1_deliver_X1_run rfl rfl rfl (by decide +kernel) ⟨Nat.le_of_ble_eq_true rfl, Nat.le_of_ble_eq_true rfl⟩) (hs_preV (hs_recv hK hB (hs_ck_i h25) (by decide) rfl) hV hB hS hA0 hA hem) rfl rfl hl.1 rfl (lv_room (Nat.le_of_ble_eq_true rfl)) dX1_deliver_52 ⟨Nat.le_of_ble_eq_true rfl, Nat.le_of_ble_eq_true rfl⟩) hB hS hA rfl (fun H locs hB hS => ?_)
      refine lv_istore (lv' := [(5, .int v26), (0, .ref (ad o)), (1, .ref (ad a1)), (2, .int a2), (3, .int a3), (4, .int a4)]) hx hb dX1_deliver_55 hl (by decide) rfl (fun ls hl => ?_)
      refine lv_iload hx hb dX1_deliver_57 (lv_at hl 0 rfl) ?_
      refine lv_sipush (v := 10002) hx hb dX1_deliver_59 (by decide) ?_
      refine lv_icmp_ne (tgt := 93) hx hb dX1_deliver_62 (by decide) (fun h27 => ?_) (fun h27 => ?_)
      · have hf := hs_ff h27 hf
        refine lv_iload hx hb dX1_deliver_93 (lv_at hl 0 rfl) ?_
        refine lv_sipush (v := 10001) hx hb dX1_deliver_95 (by decide) ?_
        refine lv_icmp_ne (tgt := 111) hx hb dX1_deliver_98 (by decide) (fun h28 => ?_) (fun h28 => ?_)
        · have hf := hs_ff h28 hf
          refine lv_iload hx hb dX1_deliver_111 (lv_at hl 0 rfl) ?_
          obtain ⟨rfl, rfl⟩ := hs_ri hf
          exact hs_iret hx hb hr hlk hB hS dX1_deliver_113
        · have hf := hs_tt h28 hf
          refine lv_aload_n hx hb dX1_deliver_101 rfl (lv_at hl 2 rfl) ?_
          refine lv_dup hx hb dX1_deliver_102 rfl ?_
          obtain ⟨v30, h29, hf⟩ := hs_bi hf
          refine x_getIN hx hb hts inX1_deliver_X5 hown hK hB (by decide) rfl (k := 12) (by decide) rfl h29 (hNw (.fieldLinkNest "ServiceGame$Machine" 50 "ServiceGame$Service" "ranDry" "I" "ServiceGame") (by decide +kernel)) (fun _ h9 => h9) dX1_deliver_103 ?_
          refine lv_iconst (v := 1) hx hb dX1_deliver_106 (by decide) ?_
          refine lv_iadd hx hb dX1_deliver_107 ?_
          obtain ⟨σ32, h31, hf⟩ := hs_bi hf
          refine x_putIN hx hb hts inX1_deliver_X5 tyX5_ok nmX5 hown hK hB hS (by decide) rfl (k := 12) (by decide) rfl h31 (hNw (.fieldLinkNest "ServiceGame$Machine" 50 "ServiceGame$Service" "ranDry" "I" "ServiceGame") (by decide +kernel)) (fun _ h9 => h9) rfl (by decide +kernel) dX1_deliver_108 (fun H locs hB hS => ?_)
          refine lv_iload hx hb dX1_deliver_111 (lv_at hl 0 rfl) ?_
          obtain ⟨rfl, rfl⟩ := hs_ri hf
          exact hs_iret hx hb hr hlk hB hS dX1_deliver_113
      · have hf := hs_tt h27 hf
        refine lv_aload_n hx hb dX1_deliver_65 rfl (lv_at hl 1 rfl) ?_
        obtain ⟨n34, h33, hf⟩ := hs_bi hf
        refine x_getN hx hb hts inX1_deliver_X1 hown hK hB (by decide) rfl (k := 1) (by decide) rfl h33 (hts _ lkX1_deliver_0) (fun _ h9 => h9) dX1_deliver_66 ?_
        refine lv_iconst (v := 0) hx hb dX1_deliver_69 (by decide) ?_
        refine lv_aload_n hx hb dX1_deliver_70 rfl (lv_at hl 2 rfl) ?_
        obtain ⟨n36, h35, hf⟩ := hs_bi hf
        refine x_getNN hx hb hts inX1_deliver_X5 hown hK hB (by decide) rfl (k := 2) (by decide) rfl h35 (hNw (.fieldLinkNest "ServiceGame$Machine" 24 "ServiceGame$Service" "cells" "[I" "ServiceGame") (by decide +kernel)) (fun _ h9 => h9) dX1_deliver_71 ?_
        refine lv_iconst (v := 0) hx hb dX1_deliver_74 (by decide) ?_
        refine lv_bipush (v := 8) hx hb dX1_deliver_75 (by decide) ?_
        obtain ⟨σ37, h38, hf⟩ := hs_bi hf
        refine x_copy hx hb (hml.trans hl.1.symm) hown (hts _ lkX1_deliver_1) (hts _ lkX1_deliver_2) (hts _ lkX1_deliver_3) (hts _ lkX1_deliver_4) hK hB hS h38 (Nat.le_of_ble_eq_true rfl) (Nat.le_of_ble_eq_true rfl) dX1_deliver_77 (fun H locs hB hS => ?_)
        refine lv_aload_n hx hb dX1_deliver_80 rfl (lv_at hl 2 rfl) ?_
        refine lv_dup hx hb dX1_deliver_81 rfl ?_
        obtain ⟨v40, h39, hf⟩ := hs_bi hf
        refine x_getIN hx hb hts inX1_deliver_X5 hown hK hB (by decide) rfl (k := 11) (by decide) rfl h39 (hNw (.fieldLinkNest "ServiceGame$Machine" 47 "ServiceGame$Service" "broken" "I" "ServiceGame") (by decide +kernel)) (fun _ h9 => h9) dX1_deliver_82 ?_
        refine lv_iconst (v := 1) hx hb dX1_deliver_85 (by decide) ?_
        refine lv_iadd hx hb dX1_deliver_86 ?_
        obtain ⟨σ42, h41, hf⟩ := hs_bi hf
        refine x_putIN hx hb hts inX1_deliver_X5 tyX5_ok nmX5 hown hK hB hS (by decide) rfl (k := 11) (by decide) rfl h41 (hNw (.fieldLinkNest "ServiceGame$Machine" 47 "ServiceGame$Service" "broken" "I" "ServiceGame") (by decide +kernel)) (fun _ h9 => h9) rfl (by decide +kernel) dX1_deliver_87 (fun H locs hB hS => ?_)
        refine lv_goto (tgt := 111) hx hb dX1_deliver_90 (by decide) ?_
        refine lv_iload hx hb dX1_deliver_111 (lv_at hl 0 rfl) ?_
        obtain ⟨rfl, rfl⟩ := hs_ri hf
        exact hs_iret hx hb hr hlk hB hS dX1_deliver_113
end SX1_deliver
set_option maxRecDepth 100000 in
theorem ctX1_deliver (l : Launch) (fu : Nat) (σ : hs_T) (o : Nat) (a1 : Nat) (a2 : Int32) (a3 : Int32) (a4 : Int32) : hs_C0 hs_tvi l yX1_deliver wsX1_deliver rmX1_deliver (fun ad => [.ref (ad o), .ref (ad a1), .int a2, .int a3, .int a4]) σ (fX1_deliver fu σ o a1 a2 a3 a4) := by
  intro X ad sz r τ hf
  refine hs_enter (cc := cX1_deliver) (maxL := 6) (ret := (some .int)) (by decide) rfl (Nat.le_of_ble_eq_true rfl) ?_
  intro p e s m below meth c ls C hl hem hB hS hsz
  exact wX1_deliver_e fu C hem σ o a1 a2 a3 a4 hf hB hS hl
/-! ServiceGame$HandIn.<init>(ILServiceGame$Service;I)V -/
abbrev rmX0_init : Room := { frames := 1, cells := 0, slots := 0, locals := 12 }
theorem inX0_init_X0 : ∀ w ∈ wsX00, w ∈ wsX0_init := fun _ h => List.mem_cons_of_mem _ (List.mem_append_right _ h)
theorem lkX0_init_0 : Cond.code objectInit ⟨#[0xb1]⟩ 1 none ∈ wsX0_init := by decide +kernel
theorem lkX0_init_1 : Cond.methodLink RX0 1 objectInit ∈ wsX0_init := by decide +kernel
theorem lkX0_init_2 : Cond.instanceMethod objectInit ∈ wsX0_init := by decide +kernel
theorem lkX0_init_3 : Cond.fieldLink RX0 7 "ServiceGame$HandIn" "by" "I" ∈ wsX0_init := by decide +kernel
theorem lkX0_init_4 : Cond.fieldLink RX0 13 "ServiceGame$HandIn" "service" "LServiceGame$Service;" ∈ wsX0_init := by decide +kernel
theorem lkX0_init_5 : Cond.fieldLink RX0 17 "ServiceGame$HandIn" "put" "I" ∈ wsX0_init := by decide +kernel
def fX0_init (fu : Nat) (σ : hs_T) (o : Nat) (a1 : Int32) (a2 : Nat) (a3 : Int32) : Option (Unit × hs_T) :=
 (hs_pI σ 2 o 0 a1).bind fun σ2 =>
 (hs_pR σ2 2 o 1 (some a2)).bind fun σ4 =>
 (hs_pI σ4 2 o 2 a3).bind fun σ6 =>
 some ((), σ6)
section SX0_init
variable {p : Program} {l : Launch} {e : Env} {s : State} {m : MethodId} {args : Array Value} {below : List Frame} {meth : Method} {c : Code} {X : hs_X} {ad : Nat → Nat} {A : Nat → Prop} {r : Unit} {τ : hs_T}
set_option maxRecDepth 100000 in
set_option maxHeartbeats 4000000 in
theorem wX0_init_e (fu : Nat) (C : hs_Cx p s m args meth c X A yX0_init cX0_init 4 none wsX0_init) (hem : ad hs_em = X.2.2.1.2.2.2) {H : Heap} {locs : List Loc} {ls : Array Slot} (σ : hs_T) (o : Nat) (a1 : Int32) (a2 : Nat) (a3 : Int32) (hf : fX0_init fu σ o a1 a2 a3 = some (r, τ)) (hB : hs_H X.1 X.2.1 ad A σ H) (hS : va_S A s.heap H locs) (hl : lv_has ls 4 [(0, .ref (ad o)), (1, .int a1), (2, .ref (ad a2)), (3, .int a3)]) : W p l e rmX0_init s m args below meth c H locs 0 0 (MQ below (hs_Q0 hs_tvv X ad A r τ) args s 0 0 A) (F0 m 0 ls []) := by
  obtain ⟨hx, hb, hml, hr, hts, hown, hlk, hnm, hV, hA0, hA⟩ := id C
  have hown : s.vm.findClass RX0 = some m.cls := hown
  have hK := hV.1
  have hNw := hV.2.1
  unfold fX0_init at hf
  refine lv_aload_n hx hb dX0_init_0 rfl (lv_at hl 0 rfl) ?_
  refine W.objInit hx hb hown (hts _ lkX0_init_1) (hts _ lkX0_init_2) (hts _ lkX0_init_0) rfl (by rw [hml]; exact hl.1) rfl dX0_init_1 (Nat.le_of_ble_eq_true rfl) (Nat.le_of_ble_eq_true rfl) ?_
  refine W.eq (g2 := F0 m 4 ls []) rfl ?_
  refine lv_aload_n hx hb dX0_init_4 rfl (lv_at hl 0 rfl) ?_
  refine lv_iload_n hx hb dX0_init_5 rfl (lv_at hl 1 rfl) ?_
  obtain ⟨σ2, h1, hf⟩ := hs_bi hf
  refine x_putIF hx hb hts inX0_init_X0 tyX0_ok nmX0 hown hK hB hS (by decide) rfl (k := 0) (by decide) rfl h1 (hts _ lkX0_init_3) (fun _ h9 => h9) rfl hnm rfl (by decide +kernel) dX0_init_6 (fun H locs hB hS => ?_)
  refine lv_aload_n hx hb dX0_init_9 rfl (lv_at hl 0 rfl) ?_
  refine lv_aload_n hx hb dX0_init_10 rfl (lv_at hl 2 rfl) ?_
  obtain ⟨σ4, h3, hf⟩ := hs_bi hf
  refine x_putRsF hx hb hts inX0_init_X0 tyX0_ok nmX0 hown hK hB hS (by decide) rfl (k := 1) (by decide) rfl h3 (hts _ lkX0_init_4) (fun _ h9 => h9) rfl hnm rfl (ty := .object "ServiceGame$Service") (by decide +kernel) rfl rfl dX0_init_11 (fun H locs hB hS => ?_)
  refine lv_aload_n hx hb dX0_init_14 rfl (lv_at hl 0 rfl) ?_
  refine lv_iload_n hx hb dX0_init_15 rfl (lv_at hl 3 rfl) ?_
  obtain ⟨σ6, h5, hf⟩ := hs_bi hf
  refine x_putIF hx hb hts inX0_init_X0 tyX0_ok nmX0 hown hK hB hS (by decide) rfl (k := 2) (by decide) rfl h5 (hts _ lkX0_init_5) (fun _ h9 => h9) rfl hnm rfl (by decide +kernel) dX0_init_16 (fun H locs hB hS => ?_)
  obtain ⟨rfl, rfl⟩ := hs_ri hf
  exact hs_vret hx hb hr hlk hB hS dX0_init_19
end SX0_init
set_option maxRecDepth 100000 in
theorem ctX0_init (l : Launch) (fu : Nat) (σ : hs_T) (o : Nat) (a1 : Int32) (a2 : Nat) (a3 : Int32) : hs_C0 hs_tvv l yX0_init wsX0_init rmX0_init (fun ad => [.ref (ad o), .int a1, .ref (ad a2), .int a3]) σ (fX0_init fu σ o a1 a2 a3) := by
  intro X ad sz r τ hf
  refine hs_enter (cc := cX0_init) (maxL := 4) (ret := none) (by decide) rfl (Nat.le_of_ble_eq_true rfl) ?_
  intro p e s m below meth c ls C hl hem hB hS hsz
  exact wX0_init_e fu C hem σ o a1 a2 a3 hf hB hS hl
/-! ServiceGame$Service.takePatch()V -/
abbrev rmX5_takePatch : Room := { frames := 0, cells := 0, slots := 0, locals := 0 }
theorem inX5_takePatch_X5 : ∀ w ∈ wsX50, w ∈ wsX5_takePatch := fun _ h => List.mem_cons_of_mem _ (List.mem_append_right _ h)
theorem lkX5_takePatch_0 : Cond.fieldLink RX5 40 "ServiceGame$Service" "patch" "LServiceGame$Program;" ∈ wsX5_takePatch := by decide +kernel
theorem lkX5_takePatch_1 : Cond.fieldLink RX5 44 "ServiceGame$Service" "program" "LServiceGame$Program;" ∈ wsX5_takePatch := by decide +kernel
def fX5_takePatch (fu : Nat) (σ : hs_T) (o : Nat) : Option (Unit × hs_T) :=
 (hs_gR σ 7 o 10).bind fun r2 => hs_mt r2
 (some ((), σ))
 (fun n3 =>
 (hs_gR σ 7 o 10).bind fun r5 => hs_mt r5
 ((hs_pR σ 7 o 9 none).bind fun σ8 =>
 (hs_pR σ8 7 o 10 none).bind fun σ10 =>
 some ((), σ10))
 (fun n6 =>
 (hs_pR σ 7 o 9 (some n6)).bind fun σ12 =>
 (hs_pR σ12 7 o 10 none).bind fun σ14 =>
 some ((), σ14)))
section SX5_takePatch
variable {p : Program} {l : Launch} {e : Env} {s : State} {m : MethodId} {args : Array Value} {below : List Frame} {meth : Method} {c : Code} {X : hs_X} {ad : Nat → Nat} {A : Nat → Prop} {r : Unit} {τ : hs_T}
set_option maxRecDepth 100000 in
set_option maxHeartbeats 4000000 in
theorem wX5_takePatch_e (fu : Nat) (C : hs_Cx p s m args meth c X A yX5_takePatch cX5_takePatch 1 none wsX5_takePatch) (hem : ad hs_em = X.2.2.1.2.2.2) {H : Heap} {locs : List Loc} {ls : Array Slot} (σ : hs_T) (o : Nat) (hf : fX5_takePatch fu σ o = some (r, τ)) (hB : hs_H X.1 X.2.1 ad A σ H) (hS : va_S A s.heap H locs) (hl : lv_has ls 1 [(0, .ref (ad o))]) : W p l e rmX5_takePatch s m args below meth c H locs 0 0 (MQ below (hs_Q0 hs_tvv X ad A r τ) args s 0 0 A) (F0 m 0 ls []) := by
  obtain ⟨hx, hb, hml, hr, hts, hown, hlk, hnm, hV, hA0, hA⟩ := id C
  have hown : s.vm.findClass RX5 = some m.cls := hown
  have hK := hV.1
  have hNw := hV.2.1
  unfold fX5_takePatch at hf
  refine lv_aload_n hx hb dX5_takePatch_0 rfl (lv_at hl 0 rfl) ?_
  obtain ⟨r2, h1, hf⟩ := hs_bi hf
  cases r2 with
  | none =>
    have hf := hs_mn hf
    refine x_getRn hx hb hts inX5_takePatch_X5 hown hK hB (by decide) rfl (k := 10) (by decide) rfl h1 (hts _ lkX5_takePatch_0) (fun _ h9 => h9) dX5_takePatch_1 ?_
    refine lv_ifnullN (tgt := 20) hx hb dX5_takePatch_4 (by decide) ?_
    obtain ⟨rfl, rfl⟩ := hs_ri hf
    exact hs_vret hx hb hr hlk hB hS dX5_takePatch_20
  | some n3 =>
    have hf := hs_ms hf
    refine x_getRs hx hb hts inX5_takePatch_X5 hown hK hB (by decide) rfl (k := 10) (by decide) rfl h1 (hts _ lkX5_takePatch_0) (fun _ h9 => h9) dX5_takePatch_1 ?_
    refine lv_ifnull hx hb dX5_takePatch_4 ?_
    refine lv_aload_n hx hb dX5_takePatch_7 rfl (lv_at hl 0 rfl) ?_
    refine lv_aload_n hx hb dX5_takePatch_8 rfl (lv_at hl 0 rfl) ?_
    obtain ⟨r5, h4, hf⟩ := hs_bi hf
    cases r5 with
    | none =>
      have hf := hs_mn hf
      refine x_getRn hx hb hts inX5_takePatch_X5 hown hK hB (by decide) rfl (k := 10) (by decide) rfl h4 (hts _ lkX5_takePatch_0) (fun _ h9 => h9) dX5_takePatch_9 ?_
      obtain ⟨σ8, h7, hf⟩ := hs_bi hf
      refine x_putRn hx hb hts inX5_takePatch_X5 tyX5_ok nmX5 hown hK hB hS (by decide) rfl (k := 9) (by decide) rfl h7 (hts _ lkX5_takePatch_1) (fun _ h9 => h9) rfl (ty := .object "ServiceGame$Program") (by decide +kernel) rfl rfl dX5_takePatch_12 (fun H locs hB hS => ?_)
      refine lv_aload_n hx hb dX5_takePatch_15 rfl (lv_at hl 0 rfl) ?_
      refine lv_null hx hb dX5_takePatch_16 ?_
      obtain ⟨σ10, h9, hf⟩ := hs_bi hf
      refine x_putRn hx hb hts inX5_takePatch_X5 tyX5_ok nmX5 hown hK hB hS (by decide) rfl (k := 10) (by decide) rfl h9 (hts _ lkX5_takePatch_0) (fun _ h9 => h9) rfl (ty := .object "ServiceGame$Program") (by decide +kernel) rfl rfl dX5_takePatch_17 (fun H locs hB hS => ?_)
      obtain ⟨rfl, rfl⟩ := hs_ri hf
      exact hs_vret hx hb hr hlk hB hS dX5_takePatch_20
    | some n6 =>
      have hf := hs_ms hf
      refine x_getRs hx hb hts inX5_takePatch_X5 hown hK hB (by decide) rfl (k := 10) (by decide) rfl h4 (hts _ lkX5_takePatch_0) (fun _ h9 => h9) dX5_takePatch_9 ?_
      obtain ⟨σ12, h11, hf⟩ := hs_bi hf
      refine x_putRs hx hb hts inX5_takePatch_X5 tyX5_ok nmX5 hown hK hB hS (by decide) rfl (k := 9) (by decide) rfl h11 (hts _ lkX5_takePatch_1) (fun _ h9 => h9) rfl (ty := .object "ServiceGame$Program") (by decide +kernel) rfl rfl dX5_takePatch_12 (fun H locs hB hS => ?_)
      refine lv_aload_n hx hb dX5_takePatch_15 rfl (lv_at hl 0 rfl) ?_
      refine lv_null hx hb dX5_takePatch_16 ?_
      obtain ⟨σ14, h13, hf⟩ := hs_bi hf
      refine x_putRn hx hb hts inX5_takePatch_X5 tyX5_ok nmX5 hown hK hB hS (by decide) rfl (k := 10) (by decide) rfl h13 (hts _ lkX5_takePatch_0) (fun _ h9 => h9) rfl (ty := .object "ServiceGame$Program") (by decide +kernel) rfl rfl dX5_takePatch_17 (fun H locs hB hS => ?_)
      obtain ⟨rfl, rfl⟩ := hs_ri hf
      exact hs_vret hx hb hr hlk hB hS dX5_takePatch_20
end SX5_takePatch
set_option maxRecDepth 100000 in
theorem ctX5_takePatch (l : Launch) (fu : Nat) (σ : hs_T) (o : Nat) : hs_C0 hs_tvv l yX5_takePatch wsX5_takePatch rmX5_takePatch (fun ad => [.ref (ad o)]) σ (fX5_takePatch fu σ o) := by
  intro X ad sz r τ hf
  refine hs_enter (cc := cX5_takePatch) (maxL := 1) (ret := none) (by decide) rfl (Nat.le_of_ble_eq_true rfl) ?_
  intro p e s m below meth c ls C hl hem hB hS hsz
  exact wX5_takePatch_e fu C hem σ o hf hB hS hl
/-! ServiceGame$Service.keepCheck(IIIIZ)V -/
abbrev rmX5_keepCheck : Room := { frames := 0, cells := 0, slots := 0, locals := 0 }
theorem inX5_keepCheck_X5 : ∀ w ∈ wsX50, w ∈ wsX5_keepCheck := fun _ h => List.mem_cons_of_mem _ (List.mem_append_right _ h)
theorem lkX5_keepCheck_0 : Cond.fieldLink RX5 21 "ServiceGame$Service" "checkKinds" "[I" ∈ wsX5_keepCheck := by decide +kernel
theorem lkX5_keepCheck_1 : Cond.fieldLink RX5 24 "ServiceGame$Service" "checkNumbers" "[I" ∈ wsX5_keepCheck := by decide +kernel
theorem lkX5_keepCheck_2 : Cond.fieldLink RX5 27 "ServiceGame$Service" "checkAnswers" "[I" ∈ wsX5_keepCheck := by decide +kernel
theorem lkX5_keepCheck_3 : Cond.fieldLink RX5 30 "ServiceGame$Service" "checkRights" "[I" ∈ wsX5_keepCheck := by decide +kernel
def fX5_keepCheck_37 (fu : Nat)  (σ : hs_T) (y0 : Int32) (y1 : Int32) (y2 : Nat) : Option (Unit × hs_T) :=
 (hs_st σ 11 y2 y1 y0).bind fun σ16 =>
 some ((), σ16)
def fX5_keepCheck (fu : Nat) (σ : hs_T) (o : Nat) (a1 : Int32) (a2 : Int32) (a3 : Int32) (a4 : Int32) (a5 : Int32) : Option (Unit × hs_T) :=
 (hs_gN σ 7 o 5).bind fun n2 =>
 (hs_st σ 11 n2 a1 a2).bind fun σ3 =>
 (hs_gN σ3 7 o 6).bind fun n6 =>
 (hs_st σ3 11 n6 a1 a3).bind fun σ7 =>
 (hs_gN σ7 7 o 7).bind fun n10 =>
 (hs_st σ7 11 n10 a1 a4).bind fun σ11 =>
 (hs_gN σ11 7 o 8).bind fun n14 =>
 if a5 = 0 then
 (fX5_keepCheck_37 fu σ11 0 a1 n14)
 else
 (fX5_keepCheck_37 fu σ11 1 a1 n14)
section SX5_keepCheck
variable {p : Program} {l : Launch} {e : Env} {s : State} {m : MethodId} {args : Array Value} {below : List Frame} {meth : Method} {c : Code} {X : hs_X} {ad : Nat → Nat} {A : Nat → Prop} {r : Unit} {τ : hs_T}
set_option maxRecDepth 100000 in
set_option maxHeartbeats 4000000 in
theorem wX5_keepCheck_37 (fu : Nat) (C : hs_Cx p s m args meth c X A yX5_keepCheck cX5_keepCheck 6 none wsX5_keepCheck) (hem : ad hs_em = X.2.2.1.2.2.2)  {H : Heap} {locs : List Loc} {ls : Array Slot} (σ : hs_T) (y0 : Int32) (y1 : Int32) (y2 : Nat) (hf : fX5_keepCheck_37 fu  σ y0 y1 y2 = some (r, τ)) (hB : hs_H X.1 X.2.1 ad A σ H) (hS : va_S A s.heap H locs) (hl : lv_has ls 6 []) : W p l e rmX5_keepCheck s m args below meth c H locs 0 0 (MQ below (hs_Q0 hs_tvv X ad A r τ) args s 0 0 A) (F0 m 37 ls [.int y0, .int y1, .ref (ad y2)]) := by
  obtain ⟨hx, hb, hml, hr, hts, hown, hlk, hnm, hV, hA0, hA⟩ := id C
  have hown : s.vm.findClass RX5 = some m.cls := hown
  have hK := hV.1
  have hNw := hV.2.1
  unfold fX5_keepCheck_37 at hf
  obtain ⟨σ16, h17, hf⟩ := hs_bi hf
  refine x_iast hx hb hK hB hS h17 dX5_keepCheck_37 (fun H locs hB hS => ?_)
  obtain ⟨rfl, rfl⟩ := hs_ri hf
  exact hs_vret hx hb hr hlk hB hS dX5_keepCheck_38
set_option maxRecDepth 100000 in
set_option maxHeartbeats 4000000 in
theorem wX5_keepCheck_e (fu : Nat) (C : hs_Cx p s m args meth c X A yX5_keepCheck cX5_keepCheck 6 none wsX5_keepCheck) (hem : ad hs_em = X.2.2.1.2.2.2) {H : Heap} {locs : List Loc} {ls : Array Slot} (σ : hs_T) (o : Nat) (a1 : Int32) (a2 : Int32) (a3 : Int32) (a4 : Int32) (a5 : Int32) (hf : fX5_keepCheck fu σ o a1 a2 a3 a4 a5 = some (r, τ)) (hB : hs_H X.1 X.2.1 ad A σ H) (hS : va_S A s.heap H locs) (hl : lv_has ls 6 [(0, .ref (ad o)), (1, .int a1), (2, .int a2), (3, .int a3), (4, .int a4), (5, .int a5)]) : W p l e rmX5_keepCheck s m args below meth c H locs 0 0 (MQ below (hs_Q0 hs_tvv X ad A r τ) args s 0 0 A) (F0 m 0 ls []) := by
  obtain ⟨hx, hb, hml, hr, hts, hown, hlk, hnm, hV, hA0, hA⟩ := id C
  have hown : s.vm.findClass RX5 = some m.cls := hown
  have hK := hV.1
  have hNw := hV.2.1
  unfold fX5_keepCheck at hf
  refine lv_aload_n hx hb dX5_keepCheck_0 rfl (lv_at hl 0 rfl) ?_
  obtain ⟨n2, h1, hf⟩ := hs_bi hf
  refine x_getN hx hb hts inX5_keepCheck_X5 hown hK hB (by decide) rfl (k := 5) (by decide) rfl h1 (hts _ lkX5_keepCheck_0) (fun _ h9 => h9) dX5_keepCheck_1 ?_
  refine lv_iload_n hx hb dX5_keepCheck_4 rfl (lv_at hl 1 rfl) ?_
  refine lv_iload_n hx hb dX5_keepCheck_5 rfl (lv_at hl 2 rfl) ?_
  obtain ⟨σ3, h4, hf⟩ := hs_bi hf
  refine x_iast hx hb hK hB hS h4 dX5_keepCheck_6 (fun H locs hB hS => ?_)
  refine lv_aload_n hx hb dX5_keepCheck_7 rfl (lv_at hl 0 rfl) ?_
  obtain ⟨n6, h5, hf⟩ := hs_bi hf
  refine x_getN hx hb hts inX5_keepCheck_X5 hown hK hB (by decide) rfl (k := 6) (by decide) rfl h5 (hts _ lkX5_keepCheck_1) (fun _ h9 => h9) dX5_keepCheck_8 ?_
  refine lv_iload_n hx hb dX5_keepCheck_11 rfl (lv_at hl 1 rfl) ?_
  refine lv_iload_n hx hb dX5_keepCheck_12 rfl (lv_at hl 3 rfl) ?_
  obtain ⟨σ7, h8, hf⟩ := hs_bi hf
  refine x_iast hx hb hK hB hS h8 dX5_keepCheck_13 (fun H locs hB hS => ?_)
  refine lv_aload_n hx hb dX5_keepCheck_14 rfl (lv_at hl 0 rfl) ?_
  obtain ⟨n10, h9, hf⟩ := hs_bi hf
  refine x_getN hx hb hts inX5_keepCheck_X5 hown hK hB (by decide) rfl (k := 7) (by decide) rfl h9 (hts _ lkX5_keepCheck_2) (fun _ h9 => h9) dX5_keepCheck_15 ?_
  refine lv_iload_n hx hb dX5_keepCheck_18 rfl (lv_at hl 1 rfl) ?_
  refine lv_iload hx hb dX5_keepCheck_19 (lv_at hl 4 rfl) ?_
  obtain ⟨σ11, h12, hf⟩ := hs_bi hf
  refine x_iast hx hb hK hB hS h12 dX5_keepCheck_21 (fun H locs hB hS => ?_)
  refine lv_aload_n hx hb dX5_keepCheck_22 rfl (lv_at hl 0 rfl) ?_
  obtain ⟨n14, h13, hf⟩ := hs_bi hf
  refine x_getN hx hb hts inX5_keepCheck_X5 hown hK hB (by decide) rfl (k := 8) (by decide) rfl h13 (hts _ lkX5_keepCheck_3) (fun _ h9 => h9) dX5_keepCheck_23 ?_
  refine lv_iload_n hx hb dX5_keepCheck_26 rfl (lv_at hl 1 rfl) ?_
  refine lv_iload hx hb dX5_keepCheck_27 (lv_at hl 5 rfl) ?_
  refine lv_if_eq (tgt := 36) hx hb dX5_keepCheck_29 (by decide) (fun h15 => ?_) (fun h15 => ?_)
  · have hf := hs_tt h15 hf
    refine lv_iconst (v := 0) hx hb dX5_keepCheck_36 (by decide) ?_
    exact wX5_keepCheck_37 fu C hem σ11 0 a1 n14 hf hB hS (lv_sub hl [] rfl)
  · have hf := hs_ff h15 hf
    refine lv_iconst (v := 1) hx hb dX5_keepCheck_32 (by decide) ?_
    refine lv_goto (tgt := 37) hx hb dX5_keepCheck_33 (by decide) ?_
    exact wX5_keepCheck_37 fu C hem σ11 1 a1 n14 hf hB hS (lv_sub hl [] rfl)
end SX5_keepCheck
set_option maxRecDepth 100000 in
theorem ctX5_keepCheck (l : Launch) (fu : Nat) (σ : hs_T) (o : Nat) (a1 : Int32) (a2 : Int32) (a3 : Int32) (a4 : Int32) (a5 : Int32) : hs_C0 hs_tvv l yX5_keepCheck wsX5_keepCheck rmX5_keepCheck (fun ad => [.ref (ad o), .int a1, .int a2, .int a3, .int a4, .int a5]) σ (fX5_keepCheck fu σ o a1 a2 a3 a4 a5) := by
  intro X ad sz r τ hf
  refine hs_enter (cc := cX5_keepCheck) (maxL := 6) (ret := none) (by decide) rfl (Nat.le_of_ble_eq_true rfl) ?_
  intro p e s m below meth c ls C hl hem hB hS hsz
  exact wX5_keepCheck_e fu C hem σ o a1 a2 a3 a4 a5 hf hB hS hl
/-! ServiceGame$Service.isLikeCheck(II)Z -/
abbrev rmX5_isLikeCheck : Room := { frames := 0, cells := 0, slots := 0, locals := 0 }
theorem inX5_isLikeCheck_X5 : ∀ w ∈ wsX50, w ∈ wsX5_isLikeCheck := fun _ h => List.mem_cons_of_mem _ (List.mem_append_right _ h)
theorem lkX5_isLikeCheck_0 : Cond.fieldLink RX5 21 "ServiceGame$Service" "checkKinds" "[I" ∈ wsX5_isLikeCheck := by decide +kernel
theorem lkX5_isLikeCheck_1 : Cond.fieldLink RX5 24 "ServiceGame$Service" "checkNumbers" "[I" ∈ wsX5_isLikeCheck := by decide +kernel
def fX5_isLikeCheck_2b (fu : Nat)  (k2 : hs_T → Nat → Int32 → Int32 → Int32 → Option (Int32 × hs_T)) (σ : hs_T) (x0 : Nat) (x1 : Int32) (x2 : Int32) (x3 : Int32) : Option (Int32 × hs_T) :=
 if 3 ≤ x3 then
 (some (0, σ))
 else
 ((hs_gN σ 7 x0 5).bind fun n3 =>
 (hs_ld σ 11 n3 x3).bind fun v4 =>
 if (v4 + 1) = x1 then
 ((hs_gN σ 7 x0 6).bind fun n8 =>
 (hs_ld σ 11 n8 x3).bind fun v9 =>
 if v9 = x2 then
 (some (1, σ))
 else
 (k2 σ x0 x1 x2 (x3 + 1)))
 else
 (k2 σ x0 x1 x2 (x3 + 1)))
def fX5_isLikeCheck_2 (fu : Nat)  (σ : hs_T) (x0 : Nat) (x1 : Int32) (x2 : Int32) (x3 : Int32) : Option (Int32 × hs_T) :=
   hs_lp (fun (k : hs_T × Nat × Int32 × Int32 × Int32 → Option (Int32 × hs_T)) (a : hs_T × Nat × Int32 × Int32 × Int32) => fX5_isLikeCheck_2b fu  (fun σ x0 x1 x2 x3 => k (σ, x0, x1, x2, x3)) a.1 a.2.1 a.2.2.1 a.2.2.2.1 a.2.2.2.2) fu (σ, x0, x1, x2, x3)
def fX5_isLikeCheck (fu : Nat) (σ : hs_T) (o : Nat) (a1 : Int32) (a2 : Int32) : Option (Int32 × hs_T) :=
 fX5_isLikeCheck_2 fu σ o a1 a2 0
section SX5_isLikeCheck
variable {p : Program} {l : Launch} {e : Env} {s : State} {m : MethodId} {args : Array Value} {below : List Frame} {meth : Method} {c : Code} {X : hs_X} {ad : Nat → Nat} {A : Nat → Prop} {r : Int32} {τ : hs_T}
set_option maxRecDepth 100000 in
set_option maxHeartbeats 4000000 in
theorem wX5_isLikeCheck_2b (fu : Nat) (C : hs_Cx p s m args meth c X A yX5_isLikeCheck cX5_isLikeCheck 4 (some .boolean) wsX5_isLikeCheck) (hem : ad hs_em = X.2.2.1.2.2.2)  (k2 : hs_T → Nat → Int32 → Int32 → Int32 → Option (Int32 × hs_T)) (hk2 : ∀ (σ : hs_T) (x0 : Nat) (x1 : Int32) (x2 : Int32) (x3 : Int32) (H : Heap) (locs : List Loc) (ls : Array Slot), k2 σ x0 x1 x2 x3 = some (r, τ) → hs_H X.1 X.2.1 ad A σ H → va_S A s.heap H locs → lv_has ls 4 [(0, .ref (ad x0)), (1, .int x1), (2, .int x2), (3, .int x3)] → W p l e rmX5_isLikeCheck s m args below meth c H locs 0 0 (MQ below (hs_Q0 hs_tvi X ad A r τ) args s 0 0 A) (F0 m 2 ls [])) {H : Heap} {locs : List Loc} {ls : Array Slot} (σ : hs_T) (x0 : Nat) (x1 : Int32) (x2 : Int32) (x3 : Int32) (hf : fX5_isLikeCheck_2b fu  k2 σ x0 x1 x2 x3 = some (r, τ)) (hB : hs_H X.1 X.2.1 ad A σ H) (hS : va_S A s.heap H locs) (hl : lv_has ls 4 [(0, .ref (ad x0)), (1, .int x1), (2, .int x2), (3, .int x3)]) : W p l e rmX5_isLikeCheck s m args below meth c H locs 0 0 (MQ below (hs_Q0 hs_tvi X ad A r τ) args s 0 0 A) (F0 m 2 ls []) := by
  obtain ⟨hx, hb, hml, hr, hts, hown, hlk, hnm, hV, hA0, hA⟩ := id C
  have hown : s.vm.findClass RX5 = some m.cls := hown
  have hK := hV.1
  have hNw := hV.2.1
  unfold fX5_isLikeCheck_2b at hf
  refine lv_iload_n hx hb dX5_isLikeCheck_2 rfl (lv_at hl 3 rfl) ?_
  refine lv_iconst (v := 3) hx hb dX5_isLikeCheck_3 (by decide) ?_
  refine lv_icmp_ge (tgt := 37) hx hb dX5_isLikeCheck_4 (by decide) (fun h1 => ?_) (fun h1 => ?_)
  · have hf := hs_tt h1 hf
    refine lv_iconst (v := 0) hx hb dX5_isLikeCheck_37 (by decide) ?_
    obtain ⟨rfl, rfl⟩ := hs_ri hf
    exact hs_zret hx hb hr hlk (by decide) hB hS dX5_isLikeCheck_38
  · have hf := hs_ff h1 hf
    refine lv_aload_n hx hb dX5_isLikeCheck_7 rfl (lv_at hl 0 rfl) ?_
    obtain ⟨n3, h2, hf⟩ := hs_bi hf
    refine x_getN hx hb hts inX5_isLikeCheck_X5 hown hK hB (by decide) rfl (k := 5) (by decide) rfl h2 (hts _ lkX5_isLikeCheck_0) (fun _ h9 => h9) dX5_isLikeCheck_8 ?_
    refine lv_iload_n hx hb dX5_isLikeCheck_11 rfl (lv_at hl 3 rfl) ?_
    obtain ⟨v4, h5, hf⟩ := hs_bi hf
    refine x_iald hx hb hK hB h5 dX5_isLikeCheck_12 ?_
    refine lv_iconst (v := 1) hx hb dX5_isLikeCheck_13 (by decide) ?_
    refine lv_iadd hx hb dX5_isLikeCheck_14 ?_
    refine lv_iload_n hx hb dX5_isLikeCheck_15 rfl (lv_at hl 1 rfl) ?_
    refine lv_icmp_ne (tgt := 31) hx hb dX5_isLikeCheck_16 (by decide) (fun h6 => ?_) (fun h6 => ?_)
    · have hf := hs_ff h6 hf
      refine lv_iinc (v := (x3 + 1)) (lv' := [(3, .int (x3 + 1)), (0, .ref (ad x0)), (1, .int x1), (2, .int x2)]) hx hb dX5_isLikeCheck_31 hl (k := 3) rfl rfl (by decide) rfl (fun ls hl => ?_)
      refine lv_goto (tgt := 2) hx hb dX5_isLikeCheck_34 (by decide) ?_
      exact hk2 σ x0 x1 x2 (x3 + 1) _ _ _ hf hB hS (lv_sub hl [1, 2, 3, 0] rfl)
    · have hf := hs_tt h6 hf
      refine lv_aload_n hx hb dX5_isLikeCheck_19 rfl (lv_at hl 0 rfl) ?_
      obtain ⟨n8, h7, hf⟩ := hs_bi hf
      refine x_getN hx hb hts inX5_isLikeCheck_X5 hown hK hB (by decide) rfl (k := 6) (by decide) rfl h7 (hts _ lkX5_isLikeCheck_1) (fun _ h9 => h9) dX5_isLikeCheck_20 ?_
      refine lv_iload_n hx hb dX5_isLikeCheck_23 rfl (lv_at hl 3 rfl) ?_
      obtain ⟨v9, h10, hf⟩ := hs_bi hf
      refine x_iald hx hb hK hB h10 dX5_isLikeCheck_24 ?_
      refine lv_iload_n hx hb dX5_isLikeCheck_25 rfl (lv_at hl 2 rfl) ?_
      refine lv_icmp_ne (tgt := 31) hx hb dX5_isLikeCheck_26 (by decide) (fun h11 => ?_) (fun h11 => ?_)
      · have hf := hs_ff h11 hf
        refine lv_iinc (v := (x3 + 1)) (lv' := [(3, .int (x3 + 1)), (0, .ref (ad x0)), (1, .int x1), (2, .int x2)]) hx hb dX5_isLikeCheck_31 hl (k := 3) rfl rfl (by decide) rfl (fun ls hl => ?_)
        refine lv_goto (tgt := 2) hx hb dX5_isLikeCheck_34 (by decide) ?_
        exact hk2 σ x0 x1 x2 (x3 + 1) _ _ _ hf hB hS (lv_sub hl [1, 2, 3, 0] rfl)
      · have hf := hs_tt h11 hf
        refine lv_iconst (v := 1) hx hb dX5_isLikeCheck_29 (by decide) ?_
        obtain ⟨rfl, rfl⟩ := hs_ri hf
        exact hs_zret hx hb hr hlk (by decide) hB hS dX5_isLikeCheck_30
set_option maxRecDepth 100000 in
set_option maxHeartbeats 4000000 in
theorem wX5_isLikeCheck_2 (fu : Nat) (C : hs_Cx p s m args meth c X A yX5_isLikeCheck cX5_isLikeCheck 4 (some .boolean) wsX5_isLikeCheck) (hem : ad hs_em = X.2.2.1.2.2.2)  {H : Heap} {locs : List Loc} {ls : Array Slot} (σ : hs_T) (x0 : Nat) (x1 : Int32) (x2 : Int32) (x3 : Int32) (hf : fX5_isLikeCheck_2 fu  σ x0 x1 x2 x3 = some (r, τ)) (hB : hs_H X.1 X.2.1 ad A σ H) (hS : va_S A s.heap H locs) (hl : lv_has ls 4 [(0, .ref (ad x0)), (1, .int x1), (2, .int x2), (3, .int x3)]) : W p l e rmX5_isLikeCheck s m args below meth c H locs 0 0 (MQ below (hs_Q0 hs_tvi X ad A r τ) args s 0 0 A) (F0 m 2 ls []) := by
  unfold fX5_isLikeCheck_2 at hf
  exact hs_lp_i (P := fun a => ∀ (H : Heap) (locs : List Loc) (ls : Array Slot), hs_H X.1 X.2.1 ad A a.1 H → va_S A s.heap H locs → lv_has ls 4 [(0, .ref (ad a.2.1)), (1, .int a.2.2.1), (2, .int a.2.2.2.1), (3, .int a.2.2.2.2)] → W p l e rmX5_isLikeCheck s m args below meth c H locs 0 0 (MQ below (hs_Q0 hs_tvi X ad A r τ) args s 0 0 A) (F0 m 2 ls [])) (fun k a hk hf H locs ls hB hS hl => wX5_isLikeCheck_2b fu C hem  _ (fun σ x0 x1 x2 x3 H locs ls hf hB hS hl => hk (σ, x0, x1, x2, x3) hf H locs ls hB hS hl) a.1 a.2.1 a.2.2.1 a.2.2.2.1 a.2.2.2.2 hf hB hS hl) fu (σ, x0, x1, x2, x3) hf H locs ls hB hS hl
set_option maxRecDepth 100000 in
set_option maxHeartbeats 4000000 in
theorem wX5_isLikeCheck_e (fu : Nat) (C : hs_Cx p s m args meth c X A yX5_isLikeCheck cX5_isLikeCheck 4 (some .boolean) wsX5_isLikeCheck) (hem : ad hs_em = X.2.2.1.2.2.2) {H : Heap} {locs : List Loc} {ls : Array Slot} (σ : hs_T) (o : Nat) (a1 : Int32) (a2 : Int32) (hf : fX5_isLikeCheck fu σ o a1 a2 = some (r, τ)) (hB : hs_H X.1 X.2.1 ad A σ H) (hS : va_S A s.heap H locs) (hl : lv_has ls 4 [(0, .ref (ad o)), (1, .int a1), (2, .int a2)]) : W p l e rmX5_isLikeCheck s m args below meth c H locs 0 0 (MQ below (hs_Q0 hs_tvi X ad A r τ) args s 0 0 A) (F0 m 0 ls []) := by
  obtain ⟨hx, hb, hml, hr, hts, hown, hlk, hnm, hV, hA0, hA⟩ := id C
  have hown : s.vm.findClass RX5 = some m.cls := hown
  have hK := hV.1
  have hNw := hV.2.1
  unfold fX5_isLikeCheck at hf
  refine lv_iconst (v := 0) hx hb dX5_isLikeCheck_0 (by decide) ?_
  refine lv_istore_n (lv' := [(3, .int 0), (0, .ref (ad o)), (1, .int a1), (2, .int a2)]) hx hb dX5_isLikeCheck_1 rfl hl (by decide) rfl (fun ls hl => ?_)
  exact wX5_isLikeCheck_2 fu C hem σ o a1 a2 0 hf hB hS (lv_sub hl [1, 2, 3, 0] rfl)
end SX5_isLikeCheck
set_option maxRecDepth 100000 in
theorem ctX5_isLikeCheck (l : Launch) (fu : Nat) (σ : hs_T) (o : Nat) (a1 : Int32) (a2 : Int32) : hs_C0 hs_tvi l yX5_isLikeCheck wsX5_isLikeCheck rmX5_isLikeCheck (fun ad => [.ref (ad o), .int a1, .int a2]) σ (fX5_isLikeCheck fu σ o a1 a2) := by
  intro X ad sz r τ hf
  refine hs_enter (cc := cX5_isLikeCheck) (maxL := 4) (ret := (some .boolean)) (by decide) rfl (Nat.le_of_ble_eq_true rfl) ?_
  intro p e s m below meth c ls C hl hem hB hS hsz
  exact wX5_isLikeCheck_e fu C hem σ o a1 a2 hf hB hS hl
/-! ServiceGame$Service.take(III)V -/
abbrev rmX5_take : Room := { frames := 0, cells := 0, slots := 0, locals := 0 }
theorem inX5_take_X5 : ∀ w ∈ wsX50, w ∈ wsX5_take := fun _ h => List.mem_cons_of_mem _ (List.mem_append_right _ h)
theorem lkX5_take_0 : Cond.fieldLink RX5 18 "ServiceGame$Service" "takenAfter" "[I" ∈ wsX5_take := by decide +kernel
def fX5_take (fu : Nat) (σ : hs_T) (o : Nat) (a1 : Int32) (a2 : Int32) (a3 : Int32) : Option (Unit × hs_T) :=
 (hs_gN σ 7 o 4).bind fun n2 =>
 (hs_st σ 11 n2 ((a1 * 100) + a2) a3).bind fun σ3 =>
 some ((), σ3)
section SX5_take
variable {p : Program} {l : Launch} {e : Env} {s : State} {m : MethodId} {args : Array Value} {below : List Frame} {meth : Method} {c : Code} {X : hs_X} {ad : Nat → Nat} {A : Nat → Prop} {r : Unit} {τ : hs_T}
set_option maxRecDepth 100000 in
set_option maxHeartbeats 4000000 in
theorem wX5_take_e (fu : Nat) (C : hs_Cx p s m args meth c X A yX5_take cX5_take 4 none wsX5_take) (hem : ad hs_em = X.2.2.1.2.2.2) {H : Heap} {locs : List Loc} {ls : Array Slot} (σ : hs_T) (o : Nat) (a1 : Int32) (a2 : Int32) (a3 : Int32) (hf : fX5_take fu σ o a1 a2 a3 = some (r, τ)) (hB : hs_H X.1 X.2.1 ad A σ H) (hS : va_S A s.heap H locs) (hl : lv_has ls 4 [(0, .ref (ad o)), (1, .int a1), (2, .int a2), (3, .int a3)]) : W p l e rmX5_take s m args below meth c H locs 0 0 (MQ below (hs_Q0 hs_tvv X ad A r τ) args s 0 0 A) (F0 m 0 ls []) := by
  obtain ⟨hx, hb, hml, hr, hts, hown, hlk, hnm, hV, hA0, hA⟩ := id C
  have hown : s.vm.findClass RX5 = some m.cls := hown
  have hK := hV.1
  have hNw := hV.2.1
  unfold fX5_take at hf
  refine lv_aload_n hx hb dX5_take_0 rfl (lv_at hl 0 rfl) ?_
  obtain ⟨n2, h1, hf⟩ := hs_bi hf
  refine x_getN hx hb hts inX5_take_X5 hown hK hB (by decide) rfl (k := 4) (by decide) rfl h1 (hts _ lkX5_take_0) (fun _ h9 => h9) dX5_take_1 ?_
  refine lv_iload_n hx hb dX5_take_4 rfl (lv_at hl 1 rfl) ?_
  refine lv_bipush (v := 100) hx hb dX5_take_5 (by decide) ?_
  refine lv_imul hx hb dX5_take_7 ?_
  refine lv_iload_n hx hb dX5_take_8 rfl (lv_at hl 2 rfl) ?_
  refine lv_iadd hx hb dX5_take_9 ?_
  refine lv_iload_n hx hb dX5_take_10 rfl (lv_at hl 3 rfl) ?_
  obtain ⟨σ3, h4, hf⟩ := hs_bi hf
  refine x_iast hx hb hK hB hS h4 dX5_take_11 (fun H locs hB hS => ?_)
  obtain ⟨rfl, rfl⟩ := hs_ri hf
  exact hs_vret hx hb hr hlk hB hS dX5_take_12
end SX5_take
set_option maxRecDepth 100000 in
theorem ctX5_take (l : Launch) (fu : Nat) (σ : hs_T) (o : Nat) (a1 : Int32) (a2 : Int32) (a3 : Int32) : hs_C0 hs_tvv l yX5_take wsX5_take rmX5_take (fun ad => [.ref (ad o), .int a1, .int a2, .int a3]) σ (fX5_take fu σ o a1 a2 a3) := by
  intro X ad sz r τ hf
  refine hs_enter (cc := cX5_take) (maxL := 4) (ret := none) (by decide) rfl (Nat.le_of_ble_eq_true rfl) ?_
  intro p e s m below meth c ls C hl hem hB hS hsz
  exact wX5_take_e fu C hem σ o a1 a2 a3 hf hB hS hl
/-! ServiceGame$Service.isTaken(III)Z -/
abbrev rmX5_isTaken : Room := { frames := 0, cells := 0, slots := 0, locals := 0 }
theorem inX5_isTaken_X5 : ∀ w ∈ wsX50, w ∈ wsX5_isTaken := fun _ h => List.mem_cons_of_mem _ (List.mem_append_right _ h)
theorem lkX5_isTaken_0 : Cond.fieldLink RX5 18 "ServiceGame$Service" "takenAfter" "[I" ∈ wsX5_isTaken := by decide +kernel
def fX5_isTaken (fu : Nat) (σ : hs_T) (o : Nat) (a1 : Int32) (a2 : Int32) (a3 : Int32) : Option (Int32 × hs_T) :=
 (hs_gN σ 7 o 4).bind fun n2 =>
 (hs_ld σ 11 n2 ((a1 * 100) + a2)).bind fun v3 =>
 if v3 ≤ 0 then
 (some (0, σ))
 else
 (if a3 < v3 then
 (some (0, σ))
 else
 (some (1, σ)))
section SX5_isTaken
variable {p : Program} {l : Launch} {e : Env} {s : State} {m : MethodId} {args : Array Value} {below : List Frame} {meth : Method} {c : Code} {X : hs_X} {ad : Nat → Nat} {A : Nat → Prop} {r : Int32} {τ : hs_T}
set_option maxRecDepth 100000 in
set_option maxHeartbeats 4000000 in
theorem wX5_isTaken_e (fu : Nat) (C : hs_Cx p s m args meth c X A yX5_isTaken cX5_isTaken 5 (some .boolean) wsX5_isTaken) (hem : ad hs_em = X.2.2.1.2.2.2) {H : Heap} {locs : List Loc} {ls : Array Slot} (σ : hs_T) (o : Nat) (a1 : Int32) (a2 : Int32) (a3 : Int32) (hf : fX5_isTaken fu σ o a1 a2 a3 = some (r, τ)) (hB : hs_H X.1 X.2.1 ad A σ H) (hS : va_S A s.heap H locs) (hl : lv_has ls 5 [(0, .ref (ad o)), (1, .int a1), (2, .int a2), (3, .int a3)]) : W p l e rmX5_isTaken s m args below meth c H locs 0 0 (MQ below (hs_Q0 hs_tvi X ad A r τ) args s 0 0 A) (F0 m 0 ls []) := by
  obtain ⟨hx, hb, hml, hr, hts, hown, hlk, hnm, hV, hA0, hA⟩ := id C
  have hown : s.vm.findClass RX5 = some m.cls := hown
  have hK := hV.1
  have hNw := hV.2.1
  unfold fX5_isTaken at hf
  refine lv_aload_n hx hb dX5_isTaken_0 rfl (lv_at hl 0 rfl) ?_
  obtain ⟨n2, h1, hf⟩ := hs_bi hf
  refine x_getN hx hb hts inX5_isTaken_X5 hown hK hB (by decide) rfl (k := 4) (by decide) rfl h1 (hts _ lkX5_isTaken_0) (fun _ h9 => h9) dX5_isTaken_1 ?_
  refine lv_iload_n hx hb dX5_isTaken_4 rfl (lv_at hl 1 rfl) ?_
  refine lv_bipush (v := 100) hx hb dX5_isTaken_5 (by decide) ?_
  refine lv_imul hx hb dX5_isTaken_7 ?_
  refine lv_iload_n hx hb dX5_isTaken_8 rfl (lv_at hl 2 rfl) ?_
  refine lv_iadd hx hb dX5_isTaken_9 ?_
  obtain ⟨v3, h4, hf⟩ := hs_bi hf
  refine x_iald hx hb hK hB h4 dX5_isTaken_10 ?_
  refine lv_istore (lv' := [(4, .int v3), (0, .ref (ad o)), (1, .int a1), (2, .int a2), (3, .int a3)]) hx hb dX5_isTaken_11 hl (by decide) rfl (fun ls hl => ?_)
  refine lv_iload hx hb dX5_isTaken_13 (lv_at hl 0 rfl) ?_
  refine lv_if_le (tgt := 28) hx hb dX5_isTaken_15 (by decide) (fun h5 => ?_) (fun h5 => ?_)
  · have hf := hs_tt h5 hf
    refine lv_iconst (v := 0) hx hb dX5_isTaken_28 (by decide) ?_
    obtain ⟨rfl, rfl⟩ := hs_ri hf
    exact hs_zret hx hb hr hlk (by decide) hB hS dX5_isTaken_29
  · have hf := hs_ff h5 hf
    refine lv_iload hx hb dX5_isTaken_18 (lv_at hl 0 rfl) ?_
    refine lv_iload_n hx hb dX5_isTaken_20 rfl (lv_at hl 4 rfl) ?_
    refine lv_icmp_gt (tgt := 28) hx hb dX5_isTaken_21 (by decide) (fun h6 => ?_) (fun h6 => ?_)
    · have hf := hs_tt h6 hf
      refine lv_iconst (v := 0) hx hb dX5_isTaken_28 (by decide) ?_
      obtain ⟨rfl, rfl⟩ := hs_ri hf
      exact hs_zret hx hb hr hlk (by decide) hB hS dX5_isTaken_29
    · have hf := hs_ff h6 hf
      refine lv_iconst (v := 1) hx hb dX5_isTaken_24 (by decide) ?_
      refine lv_goto (tgt := 29) hx hb dX5_isTaken_25 (by decide) ?_
      obtain ⟨rfl, rfl⟩ := hs_ri hf
      exact hs_zret hx hb hr hlk (by decide) hB hS dX5_isTaken_29
end SX5_isTaken
set_option maxRecDepth 100000 in
theorem ctX5_isTaken (l : Launch) (fu : Nat) (σ : hs_T) (o : Nat) (a1 : Int32) (a2 : Int32) (a3 : Int32) : hs_C0 hs_tvi l yX5_isTaken wsX5_isTaken rmX5_isTaken (fun ad => [.ref (ad o), .int a1, .int a2, .int a3]) σ (fX5_isTaken fu σ o a1 a2 a3) := by
  intro X ad sz r τ hf
  refine hs_enter (cc := cX5_isTaken) (maxL := 5) (ret := (some .boolean)) (by decide) rfl (Nat.le_of_ble_eq_true rfl) ?_
  intro p e s m below meth c ls C hl hem hB hS hsz
  exact wX5_isTaken_e fu C hem σ o a1 a2 a3 hf hB hS hl
/-! ServiceGame$Service.takers(II)I -/
abbrev rmX5_takers : Room := { frames := 1, cells := 0, slots := 0, locals := 24 }
def fX5_takers_5b (fu : Nat)  (k5 : hs_T → Nat → Int32 → Int32 → Int32 → Int32 → Option (Int32 × hs_T)) (σ : hs_T) (x0 : Nat) (x1 : Int32) (x2 : Int32) (x3 : Int32) (x4 : Int32) : Option (Int32 × hs_T) :=
 if 5 ≤ x4 then
 (some (x3, σ))
 else
 ((hs_ck σ 7 x0).bind fun _ =>
 hs_b2 (fX5_isTaken fu σ x0 x4 x1 x2) fun v5 σ3 =>
 if v5 = 0 then
 (k5 σ3 x0 x1 x2 x3 (x4 + 1))
 else
 (k5 σ3 x0 x1 x2 (x3 + 1) (x4 + 1)))
def fX5_takers_5 (fu : Nat)  (σ : hs_T) (x0 : Nat) (x1 : Int32) (x2 : Int32) (x3 : Int32) (x4 : Int32) : Option (Int32 × hs_T) :=
   hs_lp (fun (k : hs_T × Nat × Int32 × Int32 × Int32 × Int32 → Option (Int32 × hs_T)) (a : hs_T × Nat × Int32 × Int32 × Int32 × Int32) => fX5_takers_5b fu  (fun σ x0 x1 x2 x3 x4 => k (σ, x0, x1, x2, x3, x4)) a.1 a.2.1 a.2.2.1 a.2.2.2.1 a.2.2.2.2.1 a.2.2.2.2.2) fu (σ, x0, x1, x2, x3, x4)
def fX5_takers (fu : Nat) (σ : hs_T) (o : Nat) (a1 : Int32) (a2 : Int32) : Option (Int32 × hs_T) :=
 fX5_takers_5 fu σ o a1 a2 0 0
section SX5_takers
variable {p : Program} {l : Launch} {e : Env} {s : State} {m : MethodId} {args : Array Value} {below : List Frame} {meth : Method} {c : Code} {X : hs_X} {ad : Nat → Nat} {A : Nat → Prop} {r : Int32} {τ : hs_T}
set_option maxRecDepth 100000 in
set_option maxHeartbeats 4000000 in
theorem wX5_takers_5b (fu : Nat) (C : hs_Cx p s m args meth c X A yX5_takers cX5_takers 5 (some .int) wsX5_takers) (hem : ad hs_em = X.2.2.1.2.2.2)  (k5 : hs_T → Nat → Int32 → Int32 → Int32 → Int32 → Option (Int32 × hs_T)) (hk5 : ∀ (σ : hs_T) (x0 : Nat) (x1 : Int32) (x2 : Int32) (x3 : Int32) (x4 : Int32) (H : Heap) (locs : List Loc) (ls : Array Slot), k5 σ x0 x1 x2 x3 x4 = some (r, τ) → hs_H X.1 X.2.1 ad A σ H → va_S A s.heap H locs → lv_has ls 5 [(0, .ref (ad x0)), (1, .int x1), (2, .int x2), (3, .int x3), (4, .int x4)] → W p l e rmX5_takers s m args below meth c H locs 0 0 (MQ below (hs_Q0 hs_tvi X ad A r τ) args s 0 0 A) (F0 m 5 ls [])) {H : Heap} {locs : List Loc} {ls : Array Slot} (σ : hs_T) (x0 : Nat) (x1 : Int32) (x2 : Int32) (x3 : Int32) (x4 : Int32) (hf : fX5_takers_5b fu  k5 σ x0 x1 x2 x3 x4 = some (r, τ)) (hB : hs_H X.1 X.2.1 ad A σ H) (hS : va_S A s.heap H locs) (hl : lv_has ls 5 [(0, .ref (ad x0)), (1, .int x1), (2, .int x2), (3, .int x3), (4, .int x4)]) : W p l e rmX5_takers s m args below meth c H locs 0 0 (MQ below (hs_Q0 hs_tvi X ad A r τ) args s 0 0 A) (F0 m 5 ls []) := by
  obtain ⟨hx, hb, hml, hr, hts, hown, hlk, hnm, hV, hA0, hA⟩ := id C
  have hown : s.vm.findClass RX5 = some m.cls := hown
  have hK := hV.1
  have hNw := hV.2.1
  unfold fX5_takers_5b at hf
  refine lv_iload hx hb dX5_takers_5 (lv_at hl 4 rfl) ?_
  refine lv_iconst (v := 5) hx hb dX5_takers_7 (by decide) ?_
  refine lv_icmp_ge (tgt := 31) hx hb dX5_takers_8 (by decide) (fun h1 => ?_) (fun h1 => ?_)
  · have hf := hs_tt h1 hf
    refine lv_iload_n hx hb dX5_takers_31 rfl (lv_at hl 3 rfl) ?_
    obtain ⟨rfl, rfl⟩ := hs_ri hf
    exact hs_iret hx hb hr hlk hB hS dX5_takers_32
  · have hf := hs_ff h1 hf
    refine lv_aload_n hx hb dX5_takers_11 rfl (lv_at hl 0 rfl) ?_
    refine lv_iload hx hb dX5_takers_12 (lv_at hl 4 rfl) ?_
    refine lv_iload_n hx hb dX5_takers_14 rfl (lv_at hl 1 rfl) ?_
    refine lv_iload_n hx hb dX5_takers_15 rfl (lv_at hl 2 rfl) ?_
    obtain ⟨_, h4, hf⟩ := hs_bi hf
    obtain ⟨v5, σ3, h2, hf⟩ := hs_b2i hf
    refine hs_call0 (va_runV (As := [.int x4, .int x1, .int x2]) (rest := []) ⟨hx, hb, hml, hown, hts⟩ (ctX5_isTaken l fu σ x0 x4 x1 x2 X ad H.size _ _ h2) (cwV 3 hts gX5_takers_X5_isTaken rfl rfl rfl (by decide +kernel) ⟨Nat.le_of_ble_eq_true rfl, Nat.le_of_ble_eq_true rfl⟩) (hs_preV (hs_recv hK hB (hs_ck_i h4) (by decide) rfl) hV hB hS hA0 hA hem) rfl rfl hl.1 rfl (lv_room (Nat.le_of_ble_eq_true rfl)) dX5_takers_16 ⟨Nat.le_of_ble_eq_true rfl, Nat.le_of_ble_eq_true rfl⟩) hB hS hA rfl (fun H locs hB hS => ?_)
    refine lv_if_eq (tgt := 25) hx hb dX5_takers_19 (by decide) (fun h6 => ?_) (fun h6 => ?_)
    · have hf := hs_tt h6 hf
      refine lv_iinc (v := (x4 + 1)) (lv' := [(4, .int (x4 + 1)), (0, .ref (ad x0)), (1, .int x1), (2, .int x2), (3, .int x3)]) hx hb dX5_takers_25 hl (k := 4) rfl rfl (by decide) rfl (fun ls hl => ?_)
      refine lv_goto (tgt := 5) hx hb dX5_takers_28 (by decide) ?_
      exact hk5 σ3 x0 x1 x2 x3 (x4 + 1) _ _ _ hf hB hS (lv_sub hl [1, 2, 3, 4, 0] rfl)
    · have hf := hs_ff h6 hf
      refine lv_iinc (v := (x3 + 1)) (lv' := [(3, .int (x3 + 1)), (0, .ref (ad x0)), (1, .int x1), (2, .int x2), (4, .int x4)]) hx hb dX5_takers_22 hl (k := 3) rfl rfl (by decide) rfl (fun ls hl => ?_)
      refine lv_iinc (v := (x4 + 1)) (lv' := [(4, .int (x4 + 1)), (3, .int (x3 + 1)), (0, .ref (ad x0)), (1, .int x1), (2, .int x2)]) hx hb dX5_takers_25 hl (k := 4) rfl rfl (by decide) rfl (fun ls hl => ?_)
      refine lv_goto (tgt := 5) hx hb dX5_takers_28 (by decide) ?_
      exact hk5 σ3 x0 x1 x2 (x3 + 1) (x4 + 1) _ _ _ hf hB hS (lv_sub hl [2, 3, 4, 1, 0] rfl)
set_option maxRecDepth 100000 in
set_option maxHeartbeats 4000000 in
theorem wX5_takers_5 (fu : Nat) (C : hs_Cx p s m args meth c X A yX5_takers cX5_takers 5 (some .int) wsX5_takers) (hem : ad hs_em = X.2.2.1.2.2.2)  {H : Heap} {locs : List Loc} {ls : Array Slot} (σ : hs_T) (x0 : Nat) (x1 : Int32) (x2 : Int32) (x3 : Int32) (x4 : Int32) (hf : fX5_takers_5 fu  σ x0 x1 x2 x3 x4 = some (r, τ)) (hB : hs_H X.1 X.2.1 ad A σ H) (hS : va_S A s.heap H locs) (hl : lv_has ls 5 [(0, .ref (ad x0)), (1, .int x1), (2, .int x2), (3, .int x3), (4, .int x4)]) : W p l e rmX5_takers s m args below meth c H locs 0 0 (MQ below (hs_Q0 hs_tvi X ad A r τ) args s 0 0 A) (F0 m 5 ls []) := by
  unfold fX5_takers_5 at hf
  exact hs_lp_i (P := fun a => ∀ (H : Heap) (locs : List Loc) (ls : Array Slot), hs_H X.1 X.2.1 ad A a.1 H → va_S A s.heap H locs → lv_has ls 5 [(0, .ref (ad a.2.1)), (1, .int a.2.2.1), (2, .int a.2.2.2.1), (3, .int a.2.2.2.2.1), (4, .int a.2.2.2.2.2)] → W p l e rmX5_takers s m args below meth c H locs 0 0 (MQ below (hs_Q0 hs_tvi X ad A r τ) args s 0 0 A) (F0 m 5 ls [])) (fun k a hk hf H locs ls hB hS hl => wX5_takers_5b fu C hem  _ (fun σ x0 x1 x2 x3 x4 H locs ls hf hB hS hl => hk (σ, x0, x1, x2, x3, x4) hf H locs ls hB hS hl) a.1 a.2.1 a.2.2.1 a.2.2.2.1 a.2.2.2.2.1 a.2.2.2.2.2 hf hB hS hl) fu (σ, x0, x1, x2, x3, x4) hf H locs ls hB hS hl
set_option maxRecDepth 100000 in
set_option maxHeartbeats 4000000 in
theorem wX5_takers_e (fu : Nat) (C : hs_Cx p s m args meth c X A yX5_takers cX5_takers 5 (some .int) wsX5_takers) (hem : ad hs_em = X.2.2.1.2.2.2) {H : Heap} {locs : List Loc} {ls : Array Slot} (σ : hs_T) (o : Nat) (a1 : Int32) (a2 : Int32) (hf : fX5_takers fu σ o a1 a2 = some (r, τ)) (hB : hs_H X.1 X.2.1 ad A σ H) (hS : va_S A s.heap H locs) (hl : lv_has ls 5 [(0, .ref (ad o)), (1, .int a1), (2, .int a2)]) : W p l e rmX5_takers s m args below meth c H locs 0 0 (MQ below (hs_Q0 hs_tvi X ad A r τ) args s 0 0 A) (F0 m 0 ls []) := by
  obtain ⟨hx, hb, hml, hr, hts, hown, hlk, hnm, hV, hA0, hA⟩ := id C
  have hown : s.vm.findClass RX5 = some m.cls := hown
  have hK := hV.1
  have hNw := hV.2.1
  unfold fX5_takers at hf
  refine lv_iconst (v := 0) hx hb dX5_takers_0 (by decide) ?_
  refine lv_istore_n (lv' := [(3, .int 0), (0, .ref (ad o)), (1, .int a1), (2, .int a2)]) hx hb dX5_takers_1 rfl hl (by decide) rfl (fun ls hl => ?_)
  refine lv_iconst (v := 0) hx hb dX5_takers_2 (by decide) ?_
  refine lv_istore (lv' := [(4, .int 0), (3, .int 0), (0, .ref (ad o)), (1, .int a1), (2, .int a2)]) hx hb dX5_takers_3 hl (by decide) rfl (fun ls hl => ?_)
  exact wX5_takers_5 fu C hem σ o a1 a2 0 0 hf hB hS (lv_sub hl [2, 3, 4, 1, 0] rfl)
end SX5_takers
set_option maxRecDepth 100000 in
theorem ctX5_takers (l : Launch) (fu : Nat) (σ : hs_T) (o : Nat) (a1 : Int32) (a2 : Int32) : hs_C0 hs_tvi l yX5_takers wsX5_takers rmX5_takers (fun ad => [.ref (ad o), .int a1, .int a2]) σ (fX5_takers fu σ o a1 a2) := by
  intro X ad sz r τ hf
  refine hs_enter (cc := cX5_takers) (maxL := 5) (ret := (some .int)) (by decide) rfl (Nat.le_of_ble_eq_true rfl) ?_
  intro p e s m below meth c ls C hl hem hB hS hsz
  exact wX5_takers_e fu C hem σ o a1 a2 hf hB hS hl
/-! ServiceGame$Mail.keep(LServiceGame$Service;II)V -/
abbrev rmX2_keep : Room := { frames := 0, cells := 0, slots := 0, locals := 0 }
theorem inX2_keep_X2 : ∀ w ∈ wsX20, w ∈ wsX2_keep := fun _ h => List.mem_cons_of_mem _ (List.mem_append_left _ (List.mem_append_right _ h))
theorem inX2_keep_X5 : ∀ w ∈ wsX50, w ∈ wsX2_keep := fun _ h => List.mem_cons_of_mem _ (List.mem_append_right _ h)
theorem lkX2_keep_0 : Cond.fieldLink RX2 9 "ServiceGame$Mail" "places" "[I" ∈ wsX2_keep := by decide +kernel
theorem lkX2_keep_1 : Cond.fieldLink RX2 21 "ServiceGame$Mail" "size" "I" ∈ wsX2_keep := by decide +kernel
theorem lkX2_keep_2 : Cond.fieldLink RX2 15 "ServiceGame$Mail" "firsts" "[I" ∈ wsX2_keep := by decide +kernel
theorem lkX2_keep_3 : Cond.fieldLink RX2 18 "ServiceGame$Mail" "seconds" "[I" ∈ wsX2_keep := by decide +kernel
def fX2_keep (fu : Nat) (σ : hs_T) (o : Nat) (a1 : Nat) (a2 : Int32) (a3 : Int32) : Option (Unit × hs_T) :=
 (hs_gN σ 4 o 0).bind fun n2 =>
 (hs_gI σ 4 o 3).bind fun v4 =>
 (hs_gI σ 7 a1 0).bind fun v6 =>
 (hs_gI σ 7 a1 1).bind fun v8 =>
 (hs_st σ 11 n2 v4 ((v6 * 3) + v8)).bind fun σ9 =>
 (hs_gN σ9 4 o 1).bind fun n12 =>
 (hs_gI σ9 4 o 3).bind fun v14 =>
 (hs_st σ9 11 n12 v14 a2).bind fun σ15 =>
 (hs_gN σ15 4 o 2).bind fun n18 =>
 (hs_gI σ15 4 o 3).bind fun v20 =>
 (hs_st σ15 11 n18 v20 a3).bind fun σ21 =>
 (hs_gI σ21 4 o 3).bind fun v24 =>
 (hs_pI σ21 4 o 3 (v24 + 1)).bind fun σ26 =>
 some ((), σ26)
section SX2_keep
variable {p : Program} {l : Launch} {e : Env} {s : State} {m : MethodId} {args : Array Value} {below : List Frame} {meth : Method} {c : Code} {X : hs_X} {ad : Nat → Nat} {A : Nat → Prop} {r : Unit} {τ : hs_T}
set_option maxRecDepth 100000 in
set_option maxHeartbeats 4000000 in
theorem wX2_keep_e (fu : Nat) (C : hs_Cx p s m args meth c X A yX2_keep cX2_keep 4 none wsX2_keep) (hem : ad hs_em = X.2.2.1.2.2.2) {H : Heap} {locs : List Loc} {ls : Array Slot} (σ : hs_T) (o : Nat) (a1 : Nat) (a2 : Int32) (a3 : Int32) (hf : fX2_keep fu σ o a1 a2 a3 = some (r, τ)) (hB : hs_H X.1 X.2.1 ad A σ H) (hS : va_S A s.heap H locs) (hl : lv_has ls 4 [(0, .ref (ad o)), (1, .ref (ad a1)), (2, .int a2), (3, .int a3)]) : W p l e rmX2_keep s m args below meth c H locs 0 0 (MQ below (hs_Q0 hs_tvv X ad A r τ) args s 0 0 A) (F0 m 0 ls []) := by
  obtain ⟨hx, hb, hml, hr, hts, hown, hlk, hnm, hV, hA0, hA⟩ := id C
  have hown : s.vm.findClass RX2 = some m.cls := hown
  have hK := hV.1
  have hNw := hV.2.1
  unfold fX2_keep at hf
  refine lv_aload_n hx hb dX2_keep_0 rfl (lv_at hl 0 rfl) ?_
  obtain ⟨n2, h1, hf⟩ := hs_bi hf
  refine x_getN hx hb hts inX2_keep_X2 hown hK hB (by decide) rfl (k := 0) (by decide) rfl h1 (hts _ lkX2_keep_0) (fun _ h9 => h9) dX2_keep_1 ?_
  refine lv_aload_n hx hb dX2_keep_4 rfl (lv_at hl 0 rfl) ?_
  obtain ⟨v4, h3, hf⟩ := hs_bi hf
  refine x_getI hx hb hts inX2_keep_X2 hown hK hB (by decide) rfl (k := 3) (by decide) rfl h3 (hts _ lkX2_keep_1) (fun _ h9 => h9) dX2_keep_5 ?_
  refine lv_aload_n hx hb dX2_keep_8 rfl (lv_at hl 1 rfl) ?_
  obtain ⟨v6, h5, hf⟩ := hs_bi hf
  refine x_getIN hx hb hts inX2_keep_X5 hown hK hB (by decide) rfl (k := 0) (by decide) rfl h5 (hNw (.fieldLinkNest "ServiceGame$Mail" 25 "ServiceGame$Service" "team" "I" "ServiceGame") (by decide +kernel)) (fun _ h9 => h9) dX2_keep_9 ?_
  refine lv_iconst (v := 3) hx hb dX2_keep_12 (by decide) ?_
  refine lv_imul hx hb dX2_keep_13 ?_
  refine lv_aload_n hx hb dX2_keep_14 rfl (lv_at hl 1 rfl) ?_
  obtain ⟨v8, h7, hf⟩ := hs_bi hf
  refine x_getIN hx hb hts inX2_keep_X5 hown hK hB (by decide) rfl (k := 1) (by decide) rfl h7 (hNw (.fieldLinkNest "ServiceGame$Mail" 30 "ServiceGame$Service" "number" "I" "ServiceGame") (by decide +kernel)) (fun _ h9 => h9) dX2_keep_15 ?_
  refine lv_iadd hx hb dX2_keep_18 ?_
  obtain ⟨σ9, h10, hf⟩ := hs_bi hf
  refine x_iast hx hb hK hB hS h10 dX2_keep_19 (fun H locs hB hS => ?_)
  refine lv_aload_n hx hb dX2_keep_20 rfl (lv_at hl 0 rfl) ?_
  obtain ⟨n12, h11, hf⟩ := hs_bi hf
  refine x_getN hx hb hts inX2_keep_X2 hown hK hB (by decide) rfl (k := 1) (by decide) rfl h11 (hts _ lkX2_keep_2) (fun _ h9 => h9) dX2_keep_21 ?_
  refine lv_aload_n hx hb dX2_keep_24 rfl (lv_at hl 0 rfl) ?_
  obtain ⟨v14, h13, hf⟩ := hs_bi hf
  refine x_getI hx hb hts inX2_keep_X2 hown hK hB (by decide) rfl (k := 3) (by decide) rfl h13 (hts _ lkX2_keep_1) (fun _ h9 => h9) dX2_keep_25 ?_
  refine lv_iload_n hx hb dX2_keep_28 rfl (lv_at hl 2 rfl) ?_
  obtain ⟨σ15, h16, hf⟩ := hs_bi hf
  refine x_iast hx hb hK hB hS h16 dX2_keep_29 (fun H locs hB hS => ?_)
  refine lv_aload_n hx hb dX2_keep_30 rfl (lv_at hl 0 rfl) ?_
  obtain ⟨n18, h17, hf⟩ := hs_bi hf
  refine x_getN hx hb hts inX2_keep_X2 hown hK hB (by decide) rfl (k := 2) (by decide) rfl h17 (hts _ lkX2_keep_3) (fun _ h9 => h9) dX2_keep_31 ?_
  refine lv_aload_n hx hb dX2_keep_34 rfl (lv_at hl 0 rfl) ?_
  obtain ⟨v20, h19, hf⟩ := hs_bi hf
  refine x_getI hx hb hts inX2_keep_X2 hown hK hB (by decide) rfl (k := 3) (by decide) rfl h19 (hts _ lkX2_keep_1) (fun _ h9 => h9) dX2_keep_35 ?_
  refine lv_iload_n hx hb dX2_keep_38 rfl (lv_at hl 3 rfl) ?_
  obtain ⟨σ21, h22, hf⟩ := hs_bi hf
  refine x_iast hx hb hK hB hS h22 dX2_keep_39 (fun H locs hB hS => ?_)
  refine lv_aload_n hx hb dX2_keep_40 rfl (lv_at hl 0 rfl) ?_
  refine lv_dup hx hb dX2_keep_41 rfl ?_
  obtain ⟨v24, h23, hf⟩ := hs_bi hf
  refine x_getI hx hb hts inX2_keep_X2 hown hK hB (by decide) rfl (k := 3) (by decide) rfl h23 (hts _ lkX2_keep_1) (fun _ h9 => h9) dX2_keep_42 ?_
  refine lv_iconst (v := 1) hx hb dX2_keep_45 (by decide) ?_
  refine lv_iadd hx hb dX2_keep_46 ?_
  obtain ⟨σ26, h25, hf⟩ := hs_bi hf
  refine x_putI hx hb hts inX2_keep_X2 tyX2_ok nmX2 hown hK hB hS (by decide) rfl (k := 3) (by decide) rfl h25 (hts _ lkX2_keep_1) (fun _ h9 => h9) rfl (by decide +kernel) dX2_keep_47 (fun H locs hB hS => ?_)
  obtain ⟨rfl, rfl⟩ := hs_ri hf
  exact hs_vret hx hb hr hlk hB hS dX2_keep_50
end SX2_keep
set_option maxRecDepth 100000 in
theorem ctX2_keep (l : Launch) (fu : Nat) (σ : hs_T) (o : Nat) (a1 : Nat) (a2 : Int32) (a3 : Int32) : hs_C0 hs_tvv l yX2_keep wsX2_keep rmX2_keep (fun ad => [.ref (ad o), .ref (ad a1), .int a2, .int a3]) σ (fX2_keep fu σ o a1 a2 a3) := by
  intro X ad sz r τ hf
  refine hs_enter (cc := cX2_keep) (maxL := 4) (ret := none) (by decide) rfl (Nat.le_of_ble_eq_true rfl) ?_
  intro p e s m below meth c ls C hl hem hB hS hsz
  exact wX2_keep_e fu C hem σ o a1 a2 a3 hf hB hS hl
/-! ServiceGame$Mail.countLikeChecks(Ljava/util/ArrayList;)V -/
abbrev rmX2_countLikeChecks : Room := { frames := 3, cells := 0, slots := 0, locals := 64 }
theorem inX2_countLikeChecks_X2 : ∀ w ∈ wsX20, w ∈ wsX2_countLikeChecks := fun _ h => List.mem_cons_of_mem _ (List.mem_append_left _ (List.mem_append_left _ (List.mem_append_right _ h)))
theorem inX2_countLikeChecks_X5 : ∀ w ∈ wsX50, w ∈ wsX2_countLikeChecks := fun _ h => List.mem_cons_of_mem _ (List.mem_append_left _ (List.mem_append_right _ h))
theorem lkX2_countLikeChecks_0 : Cond.fieldLink RX2 21 "ServiceGame$Mail" "size" "I" ∈ wsX2_countLikeChecks := by decide +kernel
theorem lkX2_countLikeChecks_1 : Cond.fieldLink RX2 9 "ServiceGame$Mail" "places" "[I" ∈ wsX2_countLikeChecks := by decide +kernel
theorem lkX2_countLikeChecks_2 : Cond.classLink RX2 26 "ServiceGame$Service" ∈ wsX2_countLikeChecks := by decide +kernel
theorem lkX2_countLikeChecks_3 : Cond.fieldLink RX2 15 "ServiceGame$Mail" "firsts" "[I" ∈ wsX2_countLikeChecks := by decide +kernel
theorem lkX2_countLikeChecks_4 : Cond.fieldLink RX2 18 "ServiceGame$Mail" "seconds" "[I" ∈ wsX2_countLikeChecks := by decide +kernel
theorem lkX2_countLikeChecks_5 : Cond.initialized RX5 ∈ wsX2_countLikeChecks := by decide +kernel
theorem lkX2_countLikeChecks_6 : Cond.instanceMethod yX5_isLikeCheck ∈ wsX2_countLikeChecks := by decide +kernel
theorem lkX2_countLikeChecks_7 : Cond.selects RX5 yX5_isLikeCheck yX5_isLikeCheck ∈ wsX2_countLikeChecks := by decide +kernel
def fX2_countLikeChecks_66 (fu : Nat) (k2 : hs_T → Nat → Nat → Int32 → Option (Unit × hs_T)) (σ : hs_T) (x0 : Nat) (x1 : Nat) (x2 : Int32) (y0 : Int32) (y1 : Int32) (y2 : Nat) : Option (Unit × hs_T) :=
 (hs_pI σ 7 y2 13 (y1 + y0)).bind fun σ39 =>
 k2 σ39 x0 x1 (x2 + 1)
def fX2_countLikeChecks_2b (fu : Nat)  (k2 : hs_T → Nat → Nat → Int32 → Option (Unit × hs_T)) (σ : hs_T) (x0 : Nat) (x1 : Nat) (x2 : Int32) : Option (Unit × hs_T) :=
 (hs_gI σ 4 x0 3).bind fun v2 =>
 if v2 ≤ x2 then
 (some ((), σ))
 else
 ((hs_gN σ 4 x0 0).bind fun n5 =>
 (hs_ld σ 11 n5 x2).bind fun v6 =>
 (hs_ck σ 1 x1).bind fun _ =>
 hs_b2 (fJx4a65c_size_8abf5 fu σ x1) fun v11 σ9 =>
 if v11 ≤ v6 then
 (k2 σ9 x0 x1 (x2 + 1))
 else
 ((hs_gN σ9 4 x0 0).bind fun n14 =>
 (hs_ld σ9 11 n14 x2).bind fun v15 =>
 (hs_ck σ9 1 x1).bind fun _ =>
 hs_b2 (fJx4a65c_get_915e3 fu σ9 x1 v15) fun r20 σ18 => hs_mt r20 none (fun n21 =>
 (hs_ck σ18 7 n21).bind fun _ =>
 (hs_gI σ18 7 n21 13).bind fun v24 =>
 (hs_gN σ18 4 x0 1).bind fun n26 =>
 (hs_ld σ18 11 n26 x2).bind fun v27 =>
 (hs_gN σ18 4 x0 2).bind fun n30 =>
 (hs_ld σ18 11 n30 x2).bind fun v31 =>
 (hs_ck σ18 7 n21).bind fun _ =>
 hs_b2 (fX5_isLikeCheck fu σ18 n21 v27 v31) fun v36 σ34 =>
 if v36 = 0 then
 (fX2_countLikeChecks_66 fu k2 σ34 x0 x1 x2 0 v24 n21)
 else
 (fX2_countLikeChecks_66 fu k2 σ34 x0 x1 x2 1 v24 n21))))
def fX2_countLikeChecks_2 (fu : Nat)  (σ : hs_T) (x0 : Nat) (x1 : Nat) (x2 : Int32) : Option (Unit × hs_T) :=
   hs_lp (fun (k : hs_T × Nat × Nat × Int32 → Option (Unit × hs_T)) (a : hs_T × Nat × Nat × Int32) => fX2_countLikeChecks_2b fu  (fun σ x0 x1 x2 => k (σ, x0, x1, x2)) a.1 a.2.1 a.2.2.1 a.2.2.2) fu (σ, x0, x1, x2)
def fX2_countLikeChecks (fu : Nat) (σ : hs_T) (o : Nat) (a1 : Nat) : Option (Unit × hs_T) :=
 fX2_countLikeChecks_2 fu σ o a1 0
section SX2_countLikeChecks
variable {p : Program} {l : Launch} {e : Env} {s : State} {m : MethodId} {args : Array Value} {below : List Frame} {meth : Method} {c : Code} {X : hs_X} {ad : Nat → Nat} {A : Nat → Prop} {r : Unit} {τ : hs_T}
set_option maxRecDepth 100000 in
set_option maxHeartbeats 4000000 in
theorem wX2_countLikeChecks_66 (fu : Nat) (C : hs_Cx p s m args meth c X A yX2_countLikeChecks cX2_countLikeChecks 4 none wsX2_countLikeChecks) (hem : ad hs_em = X.2.2.1.2.2.2) (k2 : hs_T → Nat → Nat → Int32 → Option (Unit × hs_T)) (hk2 : ∀ (σ : hs_T) (x0 : Nat) (x1 : Nat) (x2 : Int32) (H : Heap) (locs : List Loc) (ls : Array Slot), k2 σ x0 x1 x2 = some (r, τ) → hs_H X.1 X.2.1 ad A σ H → va_S A s.heap H locs → lv_has ls 4 [(0, .ref (ad x0)), (1, .ref (ad x1)), (2, .int x2)] → W p l e rmX2_countLikeChecks s m args below meth c H locs 0 0 (MQ below (hs_Q0 hs_tvv X ad A r τ) args s 0 0 A) (F0 m 2 ls [])) {H : Heap} {locs : List Loc} {ls : Array Slot} (σ : hs_T) (x0 : Nat) (x1 : Nat) (x2 : Int32) (y0 : Int32) (y1 : Int32) (y2 : Nat) (hf : fX2_countLikeChecks_66 fu k2 σ x0 x1 x2 y0 y1 y2 = some (r, τ)) (hB : hs_H X.1 X.2.1 ad A σ H) (hS : va_S A s.heap H locs) (hl : lv_has ls 4 [(0, .ref (ad x0)), (1, .ref (ad x1)), (2, .int x2)]) : W p l e rmX2_countLikeChecks s m args below meth c H locs 0 0 (MQ below (hs_Q0 hs_tvv X ad A r τ) args s 0 0 A) (F0 m 66 ls [.int y0, .int y1, .ref (ad y2)]) := by
  obtain ⟨hx, hb, hml, hr, hts, hown, hlk, hnm, hV, hA0, hA⟩ := id C
  have hown : s.vm.findClass RX2 = some m.cls := hown
  have hK := hV.1
  have hNw := hV.2.1
  unfold fX2_countLikeChecks_66 at hf
  refine lv_iadd hx hb dX2_countLikeChecks_66 ?_
  obtain ⟨σ39, h38, hf⟩ := hs_bi hf
  refine x_putIN hx hb hts inX2_countLikeChecks_X5 tyX5_ok nmX5 hown hK hB hS (by decide) rfl (k := 13) (by decide) rfl h38 (hNw (.fieldLinkNest "ServiceGame$Mail" 42 "ServiceGame$Service" "likeChecks" "I" "ServiceGame") (by decide +kernel)) (fun _ h9 => h9) rfl (by decide +kernel) dX2_countLikeChecks_67 (fun H locs hB hS => ?_)
  refine lv_iinc (v := (x2 + 1)) (lv' := [(2, .int (x2 + 1)), (0, .ref (ad x0)), (1, .ref (ad x1))]) hx hb dX2_countLikeChecks_70 hl (k := 2) rfl rfl (by decide) rfl (fun ls hl => ?_)
  refine lv_goto (tgt := 2) hx hb dX2_countLikeChecks_73 (by decide) ?_
  exact hk2 σ39 x0 x1 (x2 + 1) _ _ _ hf hB hS (lv_sub hl [1, 2, 0] rfl)
set_option maxRecDepth 100000 in
set_option maxHeartbeats 4000000 in
theorem wX2_countLikeChecks_2b (fu : Nat) (C : hs_Cx p s m args meth c X A yX2_countLikeChecks cX2_countLikeChecks 4 none wsX2_countLikeChecks) (hem : ad hs_em = X.2.2.1.2.2.2)  (k2 : hs_T → Nat → Nat → Int32 → Option (Unit × hs_T)) (hk2 : ∀ (σ : hs_T) (x0 : Nat) (x1 : Nat) (x2 : Int32) (H : Heap) (locs : List Loc) (ls : Array Slot), k2 σ x0 x1 x2 = some (r, τ) → hs_H X.1 X.2.1 ad A σ H → va_S A s.heap H locs → lv_has ls 4 [(0, .ref (ad x0)), (1, .ref (ad x1)), (2, .int x2)] → W p l e rmX2_countLikeChecks s m args below meth c H locs 0 0 (MQ below (hs_Q0 hs_tvv X ad A r τ) args s 0 0 A) (F0 m 2 ls [])) {H : Heap} {locs : List Loc} {ls : Array Slot} (σ : hs_T) (x0 : Nat) (x1 : Nat) (x2 : Int32) (hf : fX2_countLikeChecks_2b fu  k2 σ x0 x1 x2 = some (r, τ)) (hB : hs_H X.1 X.2.1 ad A σ H) (hS : va_S A s.heap H locs) (hl : lv_has ls 4 [(0, .ref (ad x0)), (1, .ref (ad x1)), (2, .int x2)]) : W p l e rmX2_countLikeChecks s m args below meth c H locs 0 0 (MQ below (hs_Q0 hs_tvv X ad A r τ) args s 0 0 A) (F0 m 2 ls []) := by
  obtain ⟨hx, hb, hml, hr, hts, hown, hlk, hnm, hV, hA0, hA⟩ := id C
  have hown : s.vm.findClass RX2 = some m.cls := hown
  have hK := hV.1
  have hNw := hV.2.1
  unfold fX2_countLikeChecks_2b at hf
  refine lv_iload_n hx hb dX2_countLikeChecks_2 rfl (lv_at hl 2 rfl) ?_
  refine lv_aload_n hx hb dX2_countLikeChecks_3 rfl (lv_at hl 0 rfl) ?_
  obtain ⟨v2, h1, hf⟩ := hs_bi hf
  refine x_getI hx hb hts inX2_countLikeChecks_X2 hown hK hB (by decide) rfl (k := 3) (by decide) rfl h1 (hts _ lkX2_countLikeChecks_0) (fun _ h9 => h9) dX2_countLikeChecks_4 ?_
  refine lv_icmp_ge (tgt := 76) hx hb dX2_countLikeChecks_7 (by decide) (fun h3 => ?_) (fun h3 => ?_)
  · have hf := hs_tt h3 hf
    obtain ⟨rfl, rfl⟩ := hs_ri hf
    exact hs_vret hx hb hr hlk hB hS dX2_countLikeChecks_76
  · have hf := hs_ff h3 hf
    refine lv_aload_n hx hb dX2_countLikeChecks_10 rfl (lv_at hl 0 rfl) ?_
    obtain ⟨n5, h4, hf⟩ := hs_bi hf
    refine x_getN hx hb hts inX2_countLikeChecks_X2 hown hK hB (by decide) rfl (k := 0) (by decide) rfl h4 (hts _ lkX2_countLikeChecks_1) (fun _ h9 => h9) dX2_countLikeChecks_11 ?_
    refine lv_iload_n hx hb dX2_countLikeChecks_14 rfl (lv_at hl 2 rfl) ?_
    obtain ⟨v6, h7, hf⟩ := hs_bi hf
    refine x_iald hx hb hK hB h7 dX2_countLikeChecks_15 ?_
    refine lv_aload_n hx hb dX2_countLikeChecks_16 rfl (lv_at hl 1 rfl) ?_
    obtain ⟨_, h10, hf⟩ := hs_bi hf
    obtain ⟨v11, σ9, h8, hf⟩ := hs_b2i hf
    refine hs_call0 (va_runV (As := []) (rest := [.int v6]) ⟨hx, hb, hml, hown, hts⟩ (ctJx4a65c_size_8abf5 l fu σ x1 X ad H.size _ _ h8) (cwV 0 hts gX2_countLikeChecks_Jx4a65c_size_8abf5 rfl rfl rfl (by decide +kernel) ⟨Nat.le_of_ble_eq_true rfl, Nat.le_of_ble_eq_true rfl⟩) (hs_preV (hs_recv hK hB (hs_ck_i h10) (by decide) rfl) hV hB hS hA0 hA hem) rfl rfl hl.1 rfl (lv_room (Nat.le_of_ble_eq_true rfl)) dX2_countLikeChecks_17 ⟨Nat.le_of_ble_eq_true rfl, Nat.le_of_ble_eq_true rfl⟩) hB hS hA rfl (fun H locs hB hS => ?_)
    refine lv_icmp_ge (tgt := 70) hx hb dX2_countLikeChecks_20 (by decide) (fun h12 => ?_) (fun h12 => ?_)
    · have hf := hs_tt h12 hf
      refine lv_iinc (v := (x2 + 1)) (lv' := [(2, .int (x2 + 1)), (0, .ref (ad x0)), (1, .ref (ad x1))]) hx hb dX2_countLikeChecks_70 hl (k := 2) rfl rfl (by decide) rfl (fun ls hl => ?_)
      refine lv_goto (tgt := 2) hx hb dX2_countLikeChecks_73 (by decide) ?_
      exact hk2 σ9 x0 x1 (x2 + 1) _ _ _ hf hB hS (lv_sub hl [1, 2, 0] rfl)
    · have hf := hs_ff h12 hf
      refine lv_aload_n hx hb dX2_countLikeChecks_23 rfl (lv_at hl 1 rfl) ?_
      refine lv_aload_n hx hb dX2_countLikeChecks_24 rfl (lv_at hl 0 rfl) ?_
      obtain ⟨n14, h13, hf⟩ := hs_bi hf
      refine x_getN hx hb hts inX2_countLikeChecks_X2 hown hK hB (by decide) rfl (k := 0) (by decide) rfl h13 (hts _ lkX2_countLikeChecks_1) (fun _ h9 => h9) dX2_countLikeChecks_25 ?_
      refine lv_iload_n hx hb dX2_countLikeChecks_28 rfl (lv_at hl 2 rfl) ?_
      obtain ⟨v15, h16, hf⟩ := hs_bi hf
      refine x_iald hx hb hK hB h16 dX2_countLikeChecks_29 ?_
      obtain ⟨_, h19, hf⟩ := hs_bi hf
      obtain ⟨r20, σ18, h17, hf⟩ := hs_b2i hf
      obtain ⟨n21, hf, rfl⟩ := hs_mx hf
      refine hs_call0 (va_runV (As := [.int v15]) (rest := []) ⟨hx, hb, hml, hown, hts⟩ (ctJx4a65c_get_915e3 l fu σ9 x1 v15 X ad H.size _ _ h17) (cwV 1 hts gX2_countLikeChecks_Jx4a65c_get_915e3 rfl rfl rfl (by decide +kernel) ⟨Nat.le_of_ble_eq_true rfl, Nat.le_of_ble_eq_true rfl⟩) (hs_preV (hs_recv hK hB (hs_ck_i h19) (by decide) rfl) hV hB hS hA0 hA hem) rfl rfl hl.1 rfl (lv_room (Nat.le_of_ble_eq_true rfl)) dX2_countLikeChecks_30 ⟨Nat.le_of_ble_eq_true rfl, Nat.le_of_ble_eq_true rfl⟩) hB hS hA rfl (fun H locs hB hS => ?_)
      obtain ⟨_, h22, hf⟩ := hs_bi hf
      refine x_cast hx hb hown (hts _ lkX2_countLikeChecks_2) hK hB (hs_ck_i h22) (by decide) rfl dX2_countLikeChecks_33 ?_
      refine lv_astore_n (lv' := [(3, .ref (ad n21)), (0, .ref (ad x0)), (1, .ref (ad x1)), (2, .int x2)]) hx hb dX2_countLikeChecks_36 rfl hl (by decide) rfl (fun ls hl => ?_)
      refine lv_aload_n hx hb dX2_countLikeChecks_37 rfl (lv_at hl 0 rfl) ?_
      refine lv_dup hx hb dX2_countLikeChecks_38 rfl ?_
      obtain ⟨v24, h23, hf⟩ := hs_bi hf
      refine x_getIN hx hb hts inX2_countLikeChecks_X5 hown hK hB (by decide) rfl (k := 13) (by decide) rfl h23 (hNw (.fieldLinkNest "ServiceGame$Mail" 42 "ServiceGame$Service" "likeChecks" "I" "ServiceGame") (by decide +kernel)) (fun _ h9 => h9) dX2_countLikeChecks_39 ?_
      refine lv_aload_n hx hb dX2_countLikeChecks_42 rfl (lv_at hl 0 rfl) ?_
      refine lv_aload_n hx hb dX2_countLikeChecks_43 rfl (lv_at hl 1 rfl) ?_
      obtain ⟨n26, h25, hf⟩ := hs_bi hf
      refine x_getN hx hb hts inX2_countLikeChecks_X2 hown hK hB (by decide) rfl (k := 1) (by decide) rfl h25 (hts _ lkX2_countLikeChecks_3) (fun _ h9 => h9) dX2_countLikeChecks_44 ?_
      refine lv_iload_n hx hb dX2_countLikeChecks_47 rfl (lv_at hl 3 rfl) ?_
      obtain ⟨v27, h28, hf⟩ := hs_bi hf
      refine x_iald hx hb hK hB h28 dX2_countLikeChecks_48 ?_
      refine lv_aload_n hx hb dX2_countLikeChecks_49 rfl (lv_at hl 1 rfl) ?_
      obtain ⟨n30, h29, hf⟩ := hs_bi hf
      refine x_getN hx hb hts inX2_countLikeChecks_X2 hown hK hB (by decide) rfl (k := 2) (by decide) rfl h29 (hts _ lkX2_countLikeChecks_4) (fun _ h9 => h9) dX2_countLikeChecks_50 ?_
      refine lv_iload_n hx hb dX2_countLikeChecks_53 rfl (lv_at hl 3 rfl) ?_
      obtain ⟨v31, h32, hf⟩ := hs_bi hf
      refine x_iald hx hb hK hB h32 dX2_countLikeChecks_54 ?_
      obtain ⟨_, h35, hf⟩ := hs_bi hf
      obtain ⟨v36, σ34, h33, hf⟩ := hs_b2i hf
      refine hs_call0 (va_runVN (As := [.int v27, .int v31]) (rest := [.int v24, .ref (ad n21)]) ⟨hx, hb, hml, hown, hts⟩ (ctX5_isLikeCheck l fu σ18 n21 v27 v31 X ad H.size _ _ h33) ⟨va_cnB 2 hts gX2_countLikeChecks_X5_isLikeCheck_n45 rfl rfl rfl (hNw (.methodLinkNest "ServiceGame$Mail" 45 yX5_isLikeCheck "ServiceGame") (by decide +kernel)) (hts _ lkX2_countLikeChecks_5) (by decide +kernel) ⟨Nat.le_of_ble_eq_true rfl, Nat.le_of_ble_eq_true rfl⟩, (hts _ lkX2_countLikeChecks_6), (hts _ lkX2_countLikeChecks_7)⟩ (hs_preV (hs_recv hK hB (hs_ck_i h35) (by decide) rfl) hV hB hS hA0 hA hem) rfl rfl hl.1 rfl (lv_room (Nat.le_of_ble_eq_true rfl)) dX2_countLikeChecks_55 ⟨Nat.le_of_ble_eq_true rfl, Nat.le_of_ble_eq_true rfl⟩) hB hS hA rfl (fun H locs hB hS => ?_)
      refine lv_if_eq (tgt := 65) hx hb dX2_countLikeChecks_58 (by decide) (fun h37 => ?_) (fun h37 => ?_)
      · have hf := hs_tt h37 hf
        refine lv_iconst (v := 0) hx hb dX2_countLikeChecks_65 (by decide) ?_
        exact wX2_countLikeChecks_66 fu C hem k2 hk2 σ34 x0 x1 x2 0 v24 n21 hf hB hS (lv_sub hl [1, 2, 3] rfl)
      · have hf := hs_ff h37 hf
        refine lv_iconst (v := 1) hx hb dX2_countLikeChecks_61 (by decide) ?_
        refine lv_goto (tgt := 66) hx hb dX2_countLikeChecks_62 (by decide) ?_
        exact wX2_countLikeChecks_66 fu C hem k2 hk2 σ34 x0 x1 x2 1 v24 n21 hf hB hS (lv_sub hl [1, 2, 3] rfl)
set_option maxRecDepth 100000 in
set_option maxHeartbeats 4000000 in
theorem wX2_countLikeChecks_2 (fu : Nat) (C : hs_Cx p s m args meth c X A yX2_countLikeChecks cX2_countLikeChecks 4 none wsX2_countLikeChecks) (hem : ad hs_em = X.2.2.1.2.2.2)  {H : Heap} {locs : List Loc} {ls : Array Slot} (σ : hs_T) (x0 : Nat) (x1 : Nat) (x2 : Int32) (hf : fX2_countLikeChecks_2 fu  σ x0 x1 x2 = some (r, τ)) (hB : hs_H X.1 X.2.1 ad A σ H) (hS : va_S A s.heap H locs) (hl : lv_has ls 4 [(0, .ref (ad x0)), (1, .ref (ad x1)), (2, .int x2)]) : W p l e rmX2_countLikeChecks s m args below meth c H locs 0 0 (MQ below (hs_Q0 hs_tvv X ad A r τ) args s 0 0 A) (F0 m 2 ls []) := by
  unfold fX2_countLikeChecks_2 at hf
  exact hs_lp_i (P := fun a => ∀ (H : Heap) (locs : List Loc) (ls : Array Slot), hs_H X.1 X.2.1 ad A a.1 H → va_S A s.heap H locs → lv_has ls 4 [(0, .ref (ad a.2.1)), (1, .ref (ad a.2.2.1)), (2, .int a.2.2.2)] → W p l e rmX2_countLikeChecks s m args below meth c H locs 0 0 (MQ below (hs_Q0 hs_tvv X ad A r τ) args s 0 0 A) (F0 m 2 ls [])) (fun k a hk hf H locs ls hB hS hl => wX2_countLikeChecks_2b fu C hem  _ (fun σ x0 x1 x2 H locs ls hf hB hS hl => hk (σ, x0, x1, x2) hf H locs ls hB hS hl) a.1 a.2.1 a.2.2.1 a.2.2.2 hf hB hS hl) fu (σ, x0, x1, x2) hf H locs ls hB hS hl
set_option maxRecDepth 100000 in
set_option maxHeartbeats 4000000 in
theorem wX2_countLikeChecks_e (fu : Nat) (C : hs_Cx p s m args meth c X A yX2_countLikeChecks cX2_countLikeChecks 4 none wsX2_countLikeChecks) (hem : ad hs_em = X.2.2.1.2.2.2) {H : Heap} {locs : List Loc} {ls : Array Slot} (σ : hs_T) (o : Nat) (a1 : Nat) (hf : fX2_countLikeChecks fu σ o a1 = some (r, τ)) (hB : hs_H X.1 X.2.1 ad A σ H) (hS : va_S A s.heap H locs) (hl : lv_has ls 4 [(0, .ref (ad o)), (1, .ref (ad a1))]) : W p l e rmX2_countLikeChecks s m args below meth c H locs 0 0 (MQ below (hs_Q0 hs_tvv X ad A r τ) args s 0 0 A) (F0 m 0 ls []) := by
  obtain ⟨hx, hb, hml, hr, hts, hown, hlk, hnm, hV, hA0, hA⟩ := id C
  have hown : s.vm.findClass RX2 = some m.cls := hown
  have hK := hV.1
  have hNw := hV.2.1
  unfold fX2_countLikeChecks at hf
  refine lv_iconst (v := 0) hx hb dX2_countLikeChecks_0 (by decide) ?_
  refine lv_istore_n (lv' := [(2, .int 0), (0, .ref (ad o)), (1, .ref (ad a1))]) hx hb dX2_countLikeChecks_1 rfl hl (by decide) rfl (fun ls hl => ?_)
  exact wX2_countLikeChecks_2 fu C hem σ o a1 0 hf hB hS (lv_sub hl [1, 2, 0] rfl)
end SX2_countLikeChecks
set_option maxRecDepth 100000 in
theorem ctX2_countLikeChecks (l : Launch) (fu : Nat) (σ : hs_T) (o : Nat) (a1 : Nat) : hs_C0 hs_tvv l yX2_countLikeChecks wsX2_countLikeChecks rmX2_countLikeChecks (fun ad => [.ref (ad o), .ref (ad a1)]) σ (fX2_countLikeChecks fu σ o a1) := by
  intro X ad sz r τ hf
  refine hs_enter (cc := cX2_countLikeChecks) (maxL := 4) (ret := none) (by decide) rfl (Nat.le_of_ble_eq_true rfl) ?_
  intro p e s m below meth c ls C hl hem hB hS hsz
  exact wX2_countLikeChecks_e fu C hem σ o a1 hf hB hS hl
/-! ServiceGame$Tape.at(I)I -/
abbrev rmX6_at : Room := { frames := 0, cells := 0, slots := 0, locals := 0 }
theorem inX6_at_X6 : ∀ w ∈ wsX60, w ∈ wsX6_at := fun _ h => List.mem_cons_of_mem _ (List.mem_append_right _ h)
theorem lkX6_at_0 : Cond.fieldLink RX6 15 "ServiceGame$Tape" "size" "I" ∈ wsX6_at := by decide +kernel
theorem lkX6_at_1 : Cond.fieldLink RX6 9 "ServiceGame$Tape" "bytes" "[I" ∈ wsX6_at := by decide +kernel
def fX6_at (fu : Nat) (σ : hs_T) (o : Nat) (a1 : Int32) : Option (Int32 × hs_T) :=
 if a1 < 0 then
 (some ((-1), σ))
 else
 ((hs_gI σ 8 o 1).bind fun v3 =>
 if v3 ≤ a1 then
 (some ((-1), σ))
 else
 ((hs_gN σ 8 o 0).bind fun n6 =>
 (hs_ld σ 11 n6 a1).bind fun v7 =>
 some (v7, σ)))
section SX6_at
variable {p : Program} {l : Launch} {e : Env} {s : State} {m : MethodId} {args : Array Value} {below : List Frame} {meth : Method} {c : Code} {X : hs_X} {ad : Nat → Nat} {A : Nat → Prop} {r : Int32} {τ : hs_T}
set_option maxRecDepth 100000 in
set_option maxHeartbeats 4000000 in
theorem wX6_at_e (fu : Nat) (C : hs_Cx p s m args meth c X A yX6_at cX6_at 2 (some .int) wsX6_at) (hem : ad hs_em = X.2.2.1.2.2.2) {H : Heap} {locs : List Loc} {ls : Array Slot} (σ : hs_T) (o : Nat) (a1 : Int32) (hf : fX6_at fu σ o a1 = some (r, τ)) (hB : hs_H X.1 X.2.1 ad A σ H) (hS : va_S A s.heap H locs) (hl : lv_has ls 2 [(0, .ref (ad o)), (1, .int a1)]) : W p l e rmX6_at s m args below meth c H locs 0 0 (MQ below (hs_Q0 hs_tvi X ad A r τ) args s 0 0 A) (F0 m 0 ls []) := by
  obtain ⟨hx, hb, hml, hr, hts, hown, hlk, hnm, hV, hA0, hA⟩ := id C
  have hown : s.vm.findClass RX6 = some m.cls := hown
  have hK := hV.1
  have hNw := hV.2.1
  unfold fX6_at at hf
  refine lv_iload_n hx hb dX6_at_0 rfl (lv_at hl 1 rfl) ?_
  refine lv_if_lt (tgt := 21) hx hb dX6_at_1 (by decide) (fun h1 => ?_) (fun h1 => ?_)
  · have hf := hs_tt h1 hf
    refine lv_iconst (v := (-1)) hx hb dX6_at_21 (by decide) ?_
    obtain ⟨rfl, rfl⟩ := hs_ri hf
    exact hs_iret hx hb hr hlk hB hS dX6_at_22
  · have hf := hs_ff h1 hf
    refine lv_iload_n hx hb dX6_at_4 rfl (lv_at hl 1 rfl) ?_
    refine lv_aload_n hx hb dX6_at_5 rfl (lv_at hl 0 rfl) ?_
    obtain ⟨v3, h2, hf⟩ := hs_bi hf
    refine x_getI hx hb hts inX6_at_X6 hown hK hB (by decide) rfl (k := 1) (by decide) rfl h2 (hts _ lkX6_at_0) (fun _ h9 => h9) dX6_at_6 ?_
    refine lv_icmp_ge (tgt := 21) hx hb dX6_at_9 (by decide) (fun h4 => ?_) (fun h4 => ?_)
    · have hf := hs_tt h4 hf
      refine lv_iconst (v := (-1)) hx hb dX6_at_21 (by decide) ?_
      obtain ⟨rfl, rfl⟩ := hs_ri hf
      exact hs_iret hx hb hr hlk hB hS dX6_at_22
    · have hf := hs_ff h4 hf
      refine lv_aload_n hx hb dX6_at_12 rfl (lv_at hl 0 rfl) ?_
      obtain ⟨n6, h5, hf⟩ := hs_bi hf
      refine x_getN hx hb hts inX6_at_X6 hown hK hB (by decide) rfl (k := 0) (by decide) rfl h5 (hts _ lkX6_at_1) (fun _ h9 => h9) dX6_at_13 ?_
      refine lv_iload_n hx hb dX6_at_16 rfl (lv_at hl 1 rfl) ?_
      obtain ⟨v7, h8, hf⟩ := hs_bi hf
      refine x_iald hx hb hK hB h8 dX6_at_17 ?_
      refine lv_goto (tgt := 22) hx hb dX6_at_18 (by decide) ?_
      obtain ⟨rfl, rfl⟩ := hs_ri hf
      exact hs_iret hx hb hr hlk hB hS dX6_at_22
end SX6_at
set_option maxRecDepth 100000 in
theorem ctX6_at (l : Launch) (fu : Nat) (σ : hs_T) (o : Nat) (a1 : Int32) : hs_C0 hs_tvi l yX6_at wsX6_at rmX6_at (fun ad => [.ref (ad o), .int a1]) σ (fX6_at fu σ o a1) := by
  intro X ad sz r τ hf
  refine hs_enter (cc := cX6_at) (maxL := 2) (ret := (some .int)) (by decide) rfl (Nat.le_of_ble_eq_true rfl) ?_
  intro p e s m below meth c ls C hl hem hB hS hsz
  exact wX6_at_e fu C hem σ o a1 hf hB hS hl
/-! ServiceGame$Tape.append(JI)V -/
abbrev rmX6_append : Room := { frames := 0, cells := 0, slots := 0, locals := 0 }
theorem inX6_append_X6 : ∀ w ∈ wsX60, w ∈ wsX6_append := fun _ h => List.mem_cons_of_mem _ (List.mem_append_right _ h)
theorem lkX6_append_0 : Cond.fieldLink RX6 9 "ServiceGame$Tape" "bytes" "[I" ∈ wsX6_append := by decide +kernel
theorem lkX6_append_1 : Cond.fieldLink RX6 15 "ServiceGame$Tape" "size" "I" ∈ wsX6_append := by decide +kernel
theorem lkX6_append_2 : Cond.constantLong RX6 19 (255) ∈ wsX6_append := by decide +kernel
def fX6_append_5b (fu : Nat)  (k5 : hs_T → Nat → Int64 → Int32 → Option (Unit × hs_T)) (σ : hs_T) (x0 : Nat) (x1 : Int64) (x4 : Int32) : Option (Unit × hs_T) :=
 if x4 < 0 then
 (some ((), σ))
 else
 ((hs_gN σ 8 x0 0).bind fun n3 =>
 (hs_gI σ 8 x0 1).bind fun v5 =>
 (hs_st σ 11 n3 v5 (((x1.toUInt64 >>> ((8 * x4).toInt64.toUInt64 &&& Int64.toUInt64 63)).toInt64 &&& 255).toInt32)).bind fun σ6 =>
 (hs_gI σ6 8 x0 1).bind fun v9 =>
 (hs_pI σ6 8 x0 1 (v9 + 1)).bind fun σ11 =>
 k5 σ11 x0 x1 (x4 + (-1)))
def fX6_append_5 (fu : Nat)  (σ : hs_T) (x0 : Nat) (x1 : Int64) (x4 : Int32) : Option (Unit × hs_T) :=
   hs_lp (fun (k : hs_T × Nat × Int64 × Int32 → Option (Unit × hs_T)) (a : hs_T × Nat × Int64 × Int32) => fX6_append_5b fu  (fun σ x0 x1 x4 => k (σ, x0, x1, x4)) a.1 a.2.1 a.2.2.1 a.2.2.2) fu (σ, x0, x1, x4)
def fX6_append (fu : Nat) (σ : hs_T) (o : Nat) (a1 : Int64) (a2 : Int32) : Option (Unit × hs_T) :=
 fX6_append_5 fu σ o a1 (a2 - 1)
section SX6_append
variable {p : Program} {l : Launch} {e : Env} {s : State} {m : MethodId} {args : Array Value} {below : List Frame} {meth : Method} {c : Code} {X : hs_X} {ad : Nat → Nat} {A : Nat → Prop} {r : Unit} {τ : hs_T}
set_option maxRecDepth 100000 in
set_option maxHeartbeats 4000000 in
theorem wX6_append_5b (fu : Nat) (C : hs_Cx p s m args meth c X A yX6_append cX6_append 5 none wsX6_append) (hem : ad hs_em = X.2.2.1.2.2.2)  (k5 : hs_T → Nat → Int64 → Int32 → Option (Unit × hs_T)) (hk5 : ∀ (σ : hs_T) (x0 : Nat) (x1 : Int64) (x4 : Int32) (H : Heap) (locs : List Loc) (ls : Array Slot), k5 σ x0 x1 x4 = some (r, τ) → hs_H X.1 X.2.1 ad A σ H → va_S A s.heap H locs → lv_has ls 5 [(0, .ref (ad x0)), (1, .long x1), (4, .int x4)] → W p l e rmX6_append s m args below meth c H locs 0 0 (MQ below (hs_Q0 hs_tvv X ad A r τ) args s 0 0 A) (F0 m 5 ls [])) {H : Heap} {locs : List Loc} {ls : Array Slot} (σ : hs_T) (x0 : Nat) (x1 : Int64) (x4 : Int32) (hf : fX6_append_5b fu  k5 σ x0 x1 x4 = some (r, τ)) (hB : hs_H X.1 X.2.1 ad A σ H) (hS : va_S A s.heap H locs) (hl : lv_has ls 5 [(0, .ref (ad x0)), (1, .long x1), (4, .int x4)]) : W p l e rmX6_append s m args below meth c H locs 0 0 (MQ below (hs_Q0 hs_tvv X ad A r τ) args s 0 0 A) (F0 m 5 ls []) := by
  obtain ⟨hx, hb, hml, hr, hts, hown, hlk, hnm, hV, hA0, hA⟩ := id C
  have hown : s.vm.findClass RX6 = some m.cls := hown
  have hK := hV.1
  have hNw := hV.2.1
  unfold fX6_append_5b at hf
  refine lv_iload hx hb dX6_append_5 (lv_at hl 2 rfl) ?_
  refine lv_if_lt (tgt := 47) hx hb dX6_append_7 (by decide) (fun h1 => ?_) (fun h1 => ?_)
  · have hf := hs_tt h1 hf
    obtain ⟨rfl, rfl⟩ := hs_ri hf
    exact hs_vret hx hb hr hlk hB hS dX6_append_47
  · have hf := hs_ff h1 hf
    refine lv_aload_n hx hb dX6_append_10 rfl (lv_at hl 0 rfl) ?_
    obtain ⟨n3, h2, hf⟩ := hs_bi hf
    refine x_getN hx hb hts inX6_append_X6 hown hK hB (by decide) rfl (k := 0) (by decide) rfl h2 (hts _ lkX6_append_0) (fun _ h9 => h9) dX6_append_11 ?_
    refine lv_aload_n hx hb dX6_append_14 rfl (lv_at hl 0 rfl) ?_
    obtain ⟨v5, h4, hf⟩ := hs_bi hf
    refine x_getI hx hb hts inX6_append_X6 hown hK hB (by decide) rfl (k := 1) (by decide) rfl h4 (hts _ lkX6_append_1) (fun _ h9 => h9) dX6_append_15 ?_
    refine lv_lload_n hx hb dX6_append_18 rfl (lv_at hl 1 rfl) ?_
    refine lv_bipush (v := 8) hx hb dX6_append_19 (by decide) ?_
    refine lv_iload hx hb dX6_append_21 (lv_at hl 2 rfl) ?_
    refine lv_imul hx hb dX6_append_23 ?_
    refine lv_lushr hx hb dX6_append_24 rfl ?_
    refine lv_ldc2 hx hb hown (hts _ lkX6_append_2) dX6_append_25 ?_
    refine lv_land hx hb dX6_append_28 ?_
    refine lv_l2i hx hb dX6_append_29 rfl ?_
    obtain ⟨σ6, h7, hf⟩ := hs_bi hf
    refine x_iast hx hb hK hB hS h7 dX6_append_30 (fun H locs hB hS => ?_)
    refine lv_aload_n hx hb dX6_append_31 rfl (lv_at hl 0 rfl) ?_
    refine lv_dup hx hb dX6_append_32 rfl ?_
    obtain ⟨v9, h8, hf⟩ := hs_bi hf
    refine x_getI hx hb hts inX6_append_X6 hown hK hB (by decide) rfl (k := 1) (by decide) rfl h8 (hts _ lkX6_append_1) (fun _ h9 => h9) dX6_append_33 ?_
    refine lv_iconst (v := 1) hx hb dX6_append_36 (by decide) ?_
    refine lv_iadd hx hb dX6_append_37 ?_
    obtain ⟨σ11, h10, hf⟩ := hs_bi hf
    refine x_putI hx hb hts inX6_append_X6 tyX6_ok nmX6 hown hK hB hS (by decide) rfl (k := 1) (by decide) rfl h10 (hts _ lkX6_append_1) (fun _ h9 => h9) rfl (by decide +kernel) dX6_append_38 (fun H locs hB hS => ?_)
    refine lv_iinc (v := (x4 + (-1))) (lv' := [(4, .int (x4 + (-1))), (0, .ref (ad x0)), (1, .long x1)]) hx hb dX6_append_41 hl (k := 2) rfl rfl (by decide) rfl (fun ls hl => ?_)
    refine lv_goto (tgt := 5) hx hb dX6_append_44 (by decide) ?_
    exact hk5 σ11 x0 x1 (x4 + (-1)) _ _ _ hf hB hS (lv_sub hl [1, 2, 0] rfl)
set_option maxRecDepth 100000 in
set_option maxHeartbeats 4000000 in
theorem wX6_append_5 (fu : Nat) (C : hs_Cx p s m args meth c X A yX6_append cX6_append 5 none wsX6_append) (hem : ad hs_em = X.2.2.1.2.2.2)  {H : Heap} {locs : List Loc} {ls : Array Slot} (σ : hs_T) (x0 : Nat) (x1 : Int64) (x4 : Int32) (hf : fX6_append_5 fu  σ x0 x1 x4 = some (r, τ)) (hB : hs_H X.1 X.2.1 ad A σ H) (hS : va_S A s.heap H locs) (hl : lv_has ls 5 [(0, .ref (ad x0)), (1, .long x1), (4, .int x4)]) : W p l e rmX6_append s m args below meth c H locs 0 0 (MQ below (hs_Q0 hs_tvv X ad A r τ) args s 0 0 A) (F0 m 5 ls []) := by
  unfold fX6_append_5 at hf
  exact hs_lp_i (P := fun a => ∀ (H : Heap) (locs : List Loc) (ls : Array Slot), hs_H X.1 X.2.1 ad A a.1 H → va_S A s.heap H locs → lv_has ls 5 [(0, .ref (ad a.2.1)), (1, .long a.2.2.1), (4, .int a.2.2.2)] → W p l e rmX6_append s m args below meth c H locs 0 0 (MQ below (hs_Q0 hs_tvv X ad A r τ) args s 0 0 A) (F0 m 5 ls [])) (fun k a hk hf H locs ls hB hS hl => wX6_append_5b fu C hem  _ (fun σ x0 x1 x4 H locs ls hf hB hS hl => hk (σ, x0, x1, x4) hf H locs ls hB hS hl) a.1 a.2.1 a.2.2.1 a.2.2.2 hf hB hS hl) fu (σ, x0, x1, x4) hf H locs ls hB hS hl
set_option maxRecDepth 100000 in
set_option maxHeartbeats 4000000 in
theorem wX6_append_e (fu : Nat) (C : hs_Cx p s m args meth c X A yX6_append cX6_append 5 none wsX6_append) (hem : ad hs_em = X.2.2.1.2.2.2) {H : Heap} {locs : List Loc} {ls : Array Slot} (σ : hs_T) (o : Nat) (a1 : Int64) (a2 : Int32) (hf : fX6_append fu σ o a1 a2 = some (r, τ)) (hB : hs_H X.1 X.2.1 ad A σ H) (hS : va_S A s.heap H locs) (hl : lv_has ls 5 [(0, .ref (ad o)), (1, .long a1), (3, .int a2)]) : W p l e rmX6_append s m args below meth c H locs 0 0 (MQ below (hs_Q0 hs_tvv X ad A r τ) args s 0 0 A) (F0 m 0 ls []) := by
  obtain ⟨hx, hb, hml, hr, hts, hown, hlk, hnm, hV, hA0, hA⟩ := id C
  have hown : s.vm.findClass RX6 = some m.cls := hown
  have hK := hV.1
  have hNw := hV.2.1
  unfold fX6_append at hf
  refine lv_iload_n hx hb dX6_append_0 rfl (lv_at hl 2 rfl) ?_
  refine lv_iconst (v := 1) hx hb dX6_append_1 (by decide) ?_
  refine lv_isub hx hb dX6_append_2 ?_
  refine lv_istore (lv' := [(4, .int (a2 - 1)), (0, .ref (ad o)), (1, .long a1), (3, .int a2)]) hx hb dX6_append_3 hl (by decide) rfl (fun ls hl => ?_)
  exact wX6_append_5 fu C hem σ o a1 (a2 - 1) hf hB hS (lv_sub hl [1, 2, 0] rfl)
end SX6_append
set_option maxRecDepth 100000 in
theorem ctX6_append (l : Launch) (fu : Nat) (σ : hs_T) (o : Nat) (a1 : Int64) (a2 : Int32) : hs_C0 hs_tvv l yX6_append wsX6_append rmX6_append (fun ad => [.ref (ad o), .long a1, .int a2]) σ (fX6_append fu σ o a1 a2) := by
  intro X ad sz r τ hf
  refine hs_enter (cc := cX6_append) (maxL := 5) (ret := none) (by decide) rfl (Nat.le_of_ble_eq_true rfl) ?_
  intro p e s m below meth c ls C hl hem hB hS hsz
  exact wX6_append_e fu C hem σ o a1 a2 hf hB hS hl
/-! ServiceGame$Reader.isDigit(I)Z -/
abbrev rmX4_isDigit : Room := { frames := 0, cells := 0, slots := 0, locals := 0 }
def fX4_isDigit (fu : Nat) (σ : hs_T) (a1 : Int32) : Option (Int32 × hs_T) :=
 if a1 < 48 then
 (some (0, σ))
 else
 (if 57 < a1 then
 (some (0, σ))
 else
 (some (1, σ)))
section SX4_isDigit
variable {p : Program} {l : Launch} {e : Env} {s : State} {m : MethodId} {args : Array Value} {below : List Frame} {meth : Method} {c : Code} {X : hs_X} {ad : Nat → Nat} {A : Nat → Prop} {r : Int32} {τ : hs_T}
set_option maxRecDepth 100000 in
set_option maxHeartbeats 4000000 in
theorem wX4_isDigit_e (fu : Nat) (C : hs_Cx p s m args meth c X A yX4_isDigit cX4_isDigit 1 (some .boolean) wsX4_isDigit) (hem : ad hs_em = X.2.2.1.2.2.2) {H : Heap} {locs : List Loc} {ls : Array Slot} (σ : hs_T) (a1 : Int32) (hf : fX4_isDigit fu σ a1 = some (r, τ)) (hB : hs_H X.1 X.2.1 ad A σ H) (hS : va_S A s.heap H locs) (hl : lv_has ls 1 [(0, .int a1)]) : W p l e rmX4_isDigit s m args below meth c H locs 0 0 (MQ below (hs_Q0 hs_tvi X ad A r τ) args s 0 0 A) (F0 m 0 ls []) := by
  obtain ⟨hx, hb, hml, hr, hts, hown, hlk, hnm, hV, hA0, hA⟩ := id C
  have hown : s.vm.findClass RX4 = some m.cls := hown
  have hK := hV.1
  have hNw := hV.2.1
  unfold fX4_isDigit at hf
  refine lv_iload_n hx hb dX4_isDigit_0 rfl (lv_at hl 0 rfl) ?_
  refine lv_bipush (v := 48) hx hb dX4_isDigit_1 (by decide) ?_
  refine lv_icmp_lt (tgt := 16) hx hb dX4_isDigit_3 (by decide) (fun h1 => ?_) (fun h1 => ?_)
  · have hf := hs_tt h1 hf
    refine lv_iconst (v := 0) hx hb dX4_isDigit_16 (by decide) ?_
    obtain ⟨rfl, rfl⟩ := hs_ri hf
    exact hs_zret hx hb hr hlk (by decide) hB hS dX4_isDigit_17
  · have hf := hs_ff h1 hf
    refine lv_iload_n hx hb dX4_isDigit_6 rfl (lv_at hl 0 rfl) ?_
    refine lv_bipush (v := 57) hx hb dX4_isDigit_7 (by decide) ?_
    refine lv_icmp_gt (tgt := 16) hx hb dX4_isDigit_9 (by decide) (fun h2 => ?_) (fun h2 => ?_)
    · have hf := hs_tt h2 hf
      refine lv_iconst (v := 0) hx hb dX4_isDigit_16 (by decide) ?_
      obtain ⟨rfl, rfl⟩ := hs_ri hf
      exact hs_zret hx hb hr hlk (by decide) hB hS dX4_isDigit_17
    · have hf := hs_ff h2 hf
      refine lv_iconst (v := 1) hx hb dX4_isDigit_12 (by decide) ?_
      refine lv_goto (tgt := 17) hx hb dX4_isDigit_13 (by decide) ?_
      obtain ⟨rfl, rfl⟩ := hs_ri hf
      exact hs_zret hx hb hr hlk (by decide) hB hS dX4_isDigit_17
end SX4_isDigit
set_option maxRecDepth 100000 in
theorem ctX4_isDigit (l : Launch) (fu : Nat) (σ : hs_T) (a1 : Int32) : hs_C0 hs_tvi l yX4_isDigit wsX4_isDigit rmX4_isDigit (fun ad => [.int a1]) σ (fX4_isDigit fu σ a1) := by
  intro X ad sz r τ hf
  refine hs_enter (cc := cX4_isDigit) (maxL := 1) (ret := (some .boolean)) (by decide) rfl (Nat.le_of_ble_eq_true rfl) ?_
  intro p e s m below meth c ls C hl hem hB hS hsz
  exact wX4_isDigit_e fu C hem σ a1 hf hB hS hl
/-! ServiceGame$Reader.readNumber(LServiceGame$Tape;I)Z -/
abbrev rmX4_readNumber : Room := { frames := 1, cells := 0, slots := 0, locals := 21 }
theorem inX4_readNumber_X4 : ∀ w ∈ wsX40, w ∈ wsX4_readNumber := fun _ h => List.mem_cons_of_mem _ (List.mem_append_left _ (List.mem_append_right _ h))
theorem lkX4_readNumber_0 : Cond.fieldLink RX4 15 "ServiceGame$Reader" "numbers" "[I" ∈ wsX4_readNumber := by decide +kernel
theorem lkX4_readNumber_1 : Cond.fieldLink RX4 22 "ServiceGame$Reader" "size" "I" ∈ wsX4_readNumber := by decide +kernel
theorem lkX4_readNumber_2 : Cond.fieldLink RX4 18 "ServiceGame$Reader" "place" "I" ∈ wsX4_readNumber := by decide +kernel
theorem lkX4_readNumber_3 : Cond.initialized RX6 ∈ wsX4_readNumber := by decide +kernel
theorem lkX4_readNumber_4 : Cond.instanceMethod yX6_at ∈ wsX4_readNumber := by decide +kernel
theorem lkX4_readNumber_5 : Cond.selects RX6 yX6_at yX6_at ∈ wsX4_readNumber := by decide +kernel
def fX4_readNumber_67 (fu : Nat)  (σ : hs_T) (x0 : Nat) (x3 : Int32) (x4 : Int32) : Option (Int32 × hs_T) :=
 (hs_gN σ 6 x0 1).bind fun n3 =>
 (hs_gI σ 6 x0 2).bind fun v5 =>
 (hs_st σ 11 n3 v5 x3).bind fun σ6 =>
 if x4 ≤ 0 then
 (some (0, σ6))
 else
 (some (1, σ6))
def fX4_readNumber_34 (fu : Nat) (k5 : hs_T → Nat → Nat → Int32 → Int32 → Int32 → Option (Int32 × hs_T)) (σ : hs_T) (x0 : Nat) (x1 : Nat) (x2 : Int32) (x3 : Int32) (x4 : Int32) : Option (Int32 × hs_T) :=
 (hs_gI σ 6 x0 3).bind fun v21 =>
 (hs_ck σ 8 x1).bind fun _ =>
 hs_b2 (fX6_at fu σ x1 v21) fun v25 σ23 =>
 (hs_gI σ23 6 x0 3).bind fun v27 =>
 (hs_pI σ23 6 x0 3 (v27 + 1)).bind fun σ29 =>
 k5 σ29 x0 x1 x2 (((x3 * 10) + v25) - 48) (x4 + 1)
def fX4_readNumber_5b (fu : Nat)  (k5 : hs_T → Nat → Nat → Int32 → Int32 → Int32 → Option (Int32 × hs_T)) (σ : hs_T) (x0 : Nat) (x1 : Nat) (x2 : Int32) (x3 : Int32) (x4 : Int32) : Option (Int32 × hs_T) :=
 if x2 ≤ x4 then
 (fX4_readNumber_67 fu σ x0 x3 x4)
 else
 ((hs_gI σ 6 x0 3).bind fun v10 =>
 (hs_ck σ 8 x1).bind fun _ =>
 hs_b2 (fX6_at fu σ x1 v10) fun v14 σ12 =>
 hs_b2 (fX4_isDigit fu σ12 v14) fun v17 σ16 =>
 if v17 = 0 then
 (fX4_readNumber_67 fu σ16 x0 x3 x4)
 else
 (if x4 = 0 then
 (fX4_readNumber_34 fu k5 σ16 x0 x1 x2 x3 x4)
 else
 (if x3 ≤ 0 then
 (fX4_readNumber_67 fu σ16 x0 x3 x4)
 else
 (fX4_readNumber_34 fu k5 σ16 x0 x1 x2 x3 x4))))
def fX4_readNumber_5 (fu : Nat)  (σ : hs_T) (x0 : Nat) (x1 : Nat) (x2 : Int32) (x3 : Int32) (x4 : Int32) : Option (Int32 × hs_T) :=
   hs_lp (fun (k : hs_T × Nat × Nat × Int32 × Int32 × Int32 → Option (Int32 × hs_T)) (a : hs_T × Nat × Nat × Int32 × Int32 × Int32) => fX4_readNumber_5b fu  (fun σ x0 x1 x2 x3 x4 => k (σ, x0, x1, x2, x3, x4)) a.1 a.2.1 a.2.2.1 a.2.2.2.1 a.2.2.2.2.1 a.2.2.2.2.2) fu (σ, x0, x1, x2, x3, x4)
def fX4_readNumber (fu : Nat) (σ : hs_T) (o : Nat) (a1 : Nat) (a2 : Int32) : Option (Int32 × hs_T) :=
 fX4_readNumber_5 fu σ o a1 a2 0 0
section SX4_readNumber
variable {p : Program} {l : Launch} {e : Env} {s : State} {m : MethodId} {args : Array Value} {below : List Frame} {meth : Method} {c : Code} {X : hs_X} {ad : Nat → Nat} {A : Nat → Prop} {r : Int32} {τ : hs_T}
set_option maxRecDepth 100000 in
set_option maxHeartbeats 4000000 in
theorem wX4_readNumber_67 (fu : Nat) (C : hs_Cx p s m args meth c X A yX4_readNumber cX4_readNumber 5 (some .boolean) wsX4_readNumber) (hem : ad hs_em = X.2.2.1.2.2.2)  {H : Heap} {locs : List Loc} {ls : Array Slot} (σ : hs_T) (x0 : Nat) (x3 : Int32) (x4 : Int32) (hf : fX4_readNumber_67 fu  σ x0 x3 x4 = some (r, τ)) (hB : hs_H X.1 X.2.1 ad A σ H) (hS : va_S A s.heap H locs) (hl : lv_has ls 5 [(0, .ref (ad x0)), (3, .int x3), (4, .int x4)]) : W p l e rmX4_readNumber s m args below meth c H locs 0 0 (MQ below (hs_Q0 hs_tvi X ad A r τ) args s 0 0 A) (F0 m 67 ls []) := by
  obtain ⟨hx, hb, hml, hr, hts, hown, hlk, hnm, hV, hA0, hA⟩ := id C
  have hown : s.vm.findClass RX4 = some m.cls := hown
  have hK := hV.1
  have hNw := hV.2.1
  unfold fX4_readNumber_67 at hf
  refine lv_aload_n hx hb dX4_readNumber_67 rfl (lv_at hl 0 rfl) ?_
  obtain ⟨n3, h2, hf⟩ := hs_bi hf
  refine x_getN hx hb hts inX4_readNumber_X4 hown hK hB (by decide) rfl (k := 1) (by decide) rfl h2 (hts _ lkX4_readNumber_0) (fun _ h9 => h9) dX4_readNumber_68 ?_
  refine lv_aload_n hx hb dX4_readNumber_71 rfl (lv_at hl 0 rfl) ?_
  obtain ⟨v5, h4, hf⟩ := hs_bi hf
  refine x_getI hx hb hts inX4_readNumber_X4 hown hK hB (by decide) rfl (k := 2) (by decide) rfl h4 (hts _ lkX4_readNumber_1) (fun _ h9 => h9) dX4_readNumber_72 ?_
  refine lv_iload_n hx hb dX4_readNumber_75 rfl (lv_at hl 1 rfl) ?_
  obtain ⟨σ6, h7, hf⟩ := hs_bi hf
  refine x_iast hx hb hK hB hS h7 dX4_readNumber_76 (fun H locs hB hS => ?_)
  refine lv_iload hx hb dX4_readNumber_77 (lv_at hl 2 rfl) ?_
  refine lv_if_le (tgt := 86) hx hb dX4_readNumber_79 (by decide) (fun h8 => ?_) (fun h8 => ?_)
  · have hf := hs_tt h8 hf
    refine lv_iconst (v := 0) hx hb dX4_readNumber_86 (by decide) ?_
    obtain ⟨rfl, rfl⟩ := hs_ri hf
    exact hs_zret hx hb hr hlk (by decide) hB hS dX4_readNumber_87
  · have hf := hs_ff h8 hf
    refine lv_iconst (v := 1) hx hb dX4_readNumber_82 (by decide) ?_
    refine lv_goto (tgt := 87) hx hb dX4_readNumber_83 (by decide) ?_
    obtain ⟨rfl, rfl⟩ := hs_ri hf
    exact hs_zret hx hb hr hlk (by decide) hB hS dX4_readNumber_87
set_option maxRecDepth 100000 in
set_option maxHeartbeats 4000000 in
theorem wX4_readNumber_34 (fu : Nat) (C : hs_Cx p s m args meth c X A yX4_readNumber cX4_readNumber 5 (some .boolean) wsX4_readNumber) (hem : ad hs_em = X.2.2.1.2.2.2) (k5 : hs_T → Nat → Nat → Int32 → Int32 → Int32 → Option (Int32 × hs_T)) (hk5 : ∀ (σ : hs_T) (x0 : Nat) (x1 : Nat) (x2 : Int32) (x3 : Int32) (x4 : Int32) (H : Heap) (locs : List Loc) (ls : Array Slot), k5 σ x0 x1 x2 x3 x4 = some (r, τ) → hs_H X.1 X.2.1 ad A σ H → va_S A s.heap H locs → lv_has ls 5 [(0, .ref (ad x0)), (1, .ref (ad x1)), (2, .int x2), (3, .int x3), (4, .int x4)] → W p l e rmX4_readNumber s m args below meth c H locs 0 0 (MQ below (hs_Q0 hs_tvi X ad A r τ) args s 0 0 A) (F0 m 5 ls [])) {H : Heap} {locs : List Loc} {ls : Array Slot} (σ : hs_T) (x0 : Nat) (x1 : Nat) (x2 : Int32) (x3 : Int32) (x4 : Int32) (hf : fX4_readNumber_34 fu k5 σ x0 x1 x2 x3 x4 = some (r, τ)) (hB : hs_H X.1 X.2.1 ad A σ H) (hS : va_S A s.heap H locs) (hl : lv_has ls 5 [(0, .ref (ad x0)), (1, .ref (ad x1)), (2, .int x2), (3, .int x3), (4, .int x4)]) : W p l e rmX4_readNumber s m args below meth c H locs 0 0 (MQ below (hs_Q0 hs_tvi X ad A r τ) args s 0 0 A) (F0 m 34 ls []) := by
  obtain ⟨hx, hb, hml, hr, hts, hown, hlk, hnm, hV, hA0, hA⟩ := id C
  have hown : s.vm.findClass RX4 = some m.cls := hown
  have hK := hV.1
  have hNw := hV.2.1
  unfold fX4_readNumber_34 at hf
  refine lv_iload_n hx hb dX4_readNumber_34 rfl (lv_at hl 3 rfl) ?_
  refine lv_bipush (v := 10) hx hb dX4_readNumber_35 (by decide) ?_
  refine lv_imul hx hb dX4_readNumber_37 ?_
  refine lv_aload_n hx hb dX4_readNumber_38 rfl (lv_at hl 1 rfl) ?_
  refine lv_aload_n hx hb dX4_readNumber_39 rfl (lv_at hl 0 rfl) ?_
  obtain ⟨v21, h20, hf⟩ := hs_bi hf
  refine x_getI hx hb hts inX4_readNumber_X4 hown hK hB (by decide) rfl (k := 3) (by decide) rfl h20 (hts _ lkX4_readNumber_2) (fun _ h9 => h9) dX4_readNumber_40 ?_
  obtain ⟨_, h24, hf⟩ := hs_bi hf
  obtain ⟨v25, σ23, h22, hf⟩ := hs_b2i hf
  refine hs_call0 (va_runVN (As := [.int v21]) (rest := [.int (x3 * 10)]) ⟨hx, hb, hml, hown, hts⟩ (ctX6_at l fu σ x1 v21 X ad H.size _ _ h22) ⟨va_cnB 1 hts gX4_readNumber_X6_at_n29 rfl rfl rfl (hNw (.methodLinkNest "ServiceGame$Reader" 29 yX6_at "ServiceGame") (by decide +kernel)) (hts _ lkX4_readNumber_3) (by decide +kernel) ⟨Nat.le_of_ble_eq_true rfl, Nat.le_of_ble_eq_true rfl⟩, (hts _ lkX4_readNumber_4), (hts _ lkX4_readNumber_5)⟩ (hs_preV (hs_recv hK hB (hs_ck_i h24) (by decide) rfl) hV hB hS hA0 hA hem) rfl rfl hl.1 rfl (lv_room (Nat.le_of_ble_eq_true rfl)) dX4_readNumber_43 ⟨Nat.le_of_ble_eq_true rfl, Nat.le_of_ble_eq_true rfl⟩) hB hS hA rfl (fun H locs hB hS => ?_)
  refine lv_iadd hx hb dX4_readNumber_46 ?_
  refine lv_bipush (v := 48) hx hb dX4_readNumber_47 (by decide) ?_
  refine lv_isub hx hb dX4_readNumber_49 ?_
  refine lv_istore_n (lv' := [(3, .int (((x3 * 10) + v25) - 48)), (0, .ref (ad x0)), (1, .ref (ad x1)), (2, .int x2), (4, .int x4)]) hx hb dX4_readNumber_50 rfl hl (by decide) rfl (fun ls hl => ?_)
  refine lv_iinc (v := (x4 + 1)) (lv' := [(4, .int (x4 + 1)), (3, .int (((x3 * 10) + v25) - 48)), (0, .ref (ad x0)), (1, .ref (ad x1)), (2, .int x2)]) hx hb dX4_readNumber_51 hl (k := 4) rfl rfl (by decide) rfl (fun ls hl => ?_)
  refine lv_aload_n hx hb dX4_readNumber_54 rfl (lv_at hl 2 rfl) ?_
  refine lv_dup hx hb dX4_readNumber_55 rfl ?_
  obtain ⟨v27, h26, hf⟩ := hs_bi hf
  refine x_getI hx hb hts inX4_readNumber_X4 hown hK hB (by decide) rfl (k := 3) (by decide) rfl h26 (hts _ lkX4_readNumber_2) (fun _ h9 => h9) dX4_readNumber_56 ?_
  refine lv_iconst (v := 1) hx hb dX4_readNumber_59 (by decide) ?_
  refine lv_iadd hx hb dX4_readNumber_60 ?_
  obtain ⟨σ29, h28, hf⟩ := hs_bi hf
  refine x_putI hx hb hts inX4_readNumber_X4 tyX4_ok nmX4 hown hK hB hS (by decide) rfl (k := 3) (by decide) rfl h28 (hts _ lkX4_readNumber_2) (fun _ h9 => h9) rfl (by decide +kernel) dX4_readNumber_61 (fun H locs hB hS => ?_)
  refine lv_goto (tgt := 5) hx hb dX4_readNumber_64 (by decide) ?_
  exact hk5 σ29 x0 x1 x2 (((x3 * 10) + v25) - 48) (x4 + 1) _ _ _ hf hB hS (lv_sub hl [2, 3, 4, 1, 0] rfl)
set_option maxRecDepth 100000 in
set_option maxHeartbeats 4000000 in
theorem wX4_readNumber_5b (fu : Nat) (C : hs_Cx p s m args meth c X A yX4_readNumber cX4_readNumber 5 (some .boolean) wsX4_readNumber) (hem : ad hs_em = X.2.2.1.2.2.2)  (k5 : hs_T → Nat → Nat → Int32 → Int32 → Int32 → Option (Int32 × hs_T)) (hk5 : ∀ (σ : hs_T) (x0 : Nat) (x1 : Nat) (x2 : Int32) (x3 : Int32) (x4 : Int32) (H : Heap) (locs : List Loc) (ls : Array Slot), k5 σ x0 x1 x2 x3 x4 = some (r, τ) → hs_H X.1 X.2.1 ad A σ H → va_S A s.heap H locs → lv_has ls 5 [(0, .ref (ad x0)), (1, .ref (ad x1)), (2, .int x2), (3, .int x3), (4, .int x4)] → W p l e rmX4_readNumber s m args below meth c H locs 0 0 (MQ below (hs_Q0 hs_tvi X ad A r τ) args s 0 0 A) (F0 m 5 ls [])) {H : Heap} {locs : List Loc} {ls : Array Slot} (σ : hs_T) (x0 : Nat) (x1 : Nat) (x2 : Int32) (x3 : Int32) (x4 : Int32) (hf : fX4_readNumber_5b fu  k5 σ x0 x1 x2 x3 x4 = some (r, τ)) (hB : hs_H X.1 X.2.1 ad A σ H) (hS : va_S A s.heap H locs) (hl : lv_has ls 5 [(0, .ref (ad x0)), (1, .ref (ad x1)), (2, .int x2), (3, .int x3), (4, .int x4)]) : W p l e rmX4_readNumber s m args below meth c H locs 0 0 (MQ below (hs_Q0 hs_tvi X ad A r τ) args s 0 0 A) (F0 m 5 ls []) := by
  obtain ⟨hx, hb, hml, hr, hts, hown, hlk, hnm, hV, hA0, hA⟩ := id C
  have hown : s.vm.findClass RX4 = some m.cls := hown
  have hK := hV.1
  have hNw := hV.2.1
  unfold fX4_readNumber_5b at hf
  refine lv_iload hx hb dX4_readNumber_5 (lv_at hl 4 rfl) ?_
  refine lv_iload_n hx hb dX4_readNumber_7 rfl (lv_at hl 2 rfl) ?_
  refine lv_icmp_ge (tgt := 67) hx hb dX4_readNumber_8 (by decide) (fun h1 => ?_) (fun h1 => ?_)
  · have hf := hs_tt h1 hf
    exact wX4_readNumber_67 fu C hem σ x0 x3 x4 hf hB hS (lv_sub hl [0, 3, 4] rfl)
  · have hf := hs_ff h1 hf
    refine lv_aload_n hx hb dX4_readNumber_11 rfl (lv_at hl 1 rfl) ?_
    refine lv_aload_n hx hb dX4_readNumber_12 rfl (lv_at hl 0 rfl) ?_
    obtain ⟨v10, h9, hf⟩ := hs_bi hf
    refine x_getI hx hb hts inX4_readNumber_X4 hown hK hB (by decide) rfl (k := 3) (by decide) rfl h9 (hts _ lkX4_readNumber_2) (fun _ h9 => h9) dX4_readNumber_13 ?_
    obtain ⟨_, h13, hf⟩ := hs_bi hf
    obtain ⟨v14, σ12, h11, hf⟩ := hs_b2i hf
    refine hs_call0 (va_runVN (As := [.int v10]) (rest := []) ⟨hx, hb, hml, hown, hts⟩ (ctX6_at l fu σ x1 v10 X ad H.size _ _ h11) ⟨va_cnB 1 hts gX4_readNumber_X6_at_n29 rfl rfl rfl (hNw (.methodLinkNest "ServiceGame$Reader" 29 yX6_at "ServiceGame") (by decide +kernel)) (hts _ lkX4_readNumber_3) (by decide +kernel) ⟨Nat.le_of_ble_eq_true rfl, Nat.le_of_ble_eq_true rfl⟩, (hts _ lkX4_readNumber_4), (hts _ lkX4_readNumber_5)⟩ (hs_preV (hs_recv hK hB (hs_ck_i h13) (by decide) rfl) hV hB hS hA0 hA hem) rfl rfl hl.1 rfl (lv_room (Nat.le_of_ble_eq_true rfl)) dX4_readNumber_16 ⟨Nat.le_of_ble_eq_true rfl, Nat.le_of_ble_eq_true rfl⟩) hB hS hA rfl (fun H locs hB hS => ?_)
    obtain ⟨v17, σ16, h15, hf⟩ := hs_b2i hf
    refine hs_call0 (va_runS (As := [.int v14]) (rest := []) ⟨hx, hb, hml, hown, hts⟩ (ctX4_isDigit l fu σ12 v14 X ad H.size _ _ h15) (va_cwS 1 hts gX4_readNumber_X4_isDigit rfl rfl rfl (by decide +kernel) ⟨Nat.le_of_ble_eq_true rfl, Nat.le_of_ble_eq_true rfl⟩) (hs_pre hV hB hS hA0 hA hem) rfl rfl hl.1 rfl (lv_room (Nat.le_of_ble_eq_true rfl)) dX4_readNumber_19 ⟨Nat.le_of_ble_eq_true rfl, Nat.le_of_ble_eq_true rfl⟩) hB hS hA rfl (fun H locs hB hS => ?_)
    refine lv_if_eq (tgt := 67) hx hb dX4_readNumber_22 (by decide) (fun h18 => ?_) (fun h18 => ?_)
    · have hf := hs_tt h18 hf
      exact wX4_readNumber_67 fu C hem σ16 x0 x3 x4 hf hB hS (lv_sub hl [0, 3, 4] rfl)
    · have hf := hs_ff h18 hf
      refine lv_iload hx hb dX4_readNumber_25 (lv_at hl 4 rfl) ?_
      refine lv_if_eq (tgt := 34) hx hb dX4_readNumber_27 (by decide) (fun h19 => ?_) (fun h19 => ?_)
      · have hf := hs_tt h19 hf
        exact wX4_readNumber_34 fu C hem k5 hk5 σ16 x0 x1 x2 x3 x4 hf hB hS hl
      · have hf := hs_ff h19 hf
        refine lv_iload_n hx hb dX4_readNumber_30 rfl (lv_at hl 3 rfl) ?_
        refine lv_if_le (tgt := 67) hx hb dX4_readNumber_31 (by decide) (fun h30 => ?_) (fun h30 => ?_)
        · have hf := hs_tt h30 hf
          exact wX4_readNumber_67 fu C hem σ16 x0 x3 x4 hf hB hS (lv_sub hl [0, 3, 4] rfl)
        · have hf := hs_ff h30 hf
          exact wX4_readNumber_34 fu C hem k5 hk5 σ16 x0 x1 x2 x3 x4 hf hB hS hl
set_option maxRecDepth 100000 in
set_option maxHeartbeats 4000000 in
theorem wX4_readNumber_5 (fu : Nat) (C : hs_Cx p s m args meth c X A yX4_readNumber cX4_readNumber 5 (some .boolean) wsX4_readNumber) (hem : ad hs_em = X.2.2.1.2.2.2)  {H : Heap} {locs : List Loc} {ls : Array Slot} (σ : hs_T) (x0 : Nat) (x1 : Nat) (x2 : Int32) (x3 : Int32) (x4 : Int32) (hf : fX4_readNumber_5 fu  σ x0 x1 x2 x3 x4 = some (r, τ)) (hB : hs_H X.1 X.2.1 ad A σ H) (hS : va_S A s.heap H locs) (hl : lv_has ls 5 [(0, .ref (ad x0)), (1, .ref (ad x1)), (2, .int x2), (3, .int x3), (4, .int x4)]) : W p l e rmX4_readNumber s m args below meth c H locs 0 0 (MQ below (hs_Q0 hs_tvi X ad A r τ) args s 0 0 A) (F0 m 5 ls []) := by
  unfold fX4_readNumber_5 at hf
  exact hs_lp_i (P := fun a => ∀ (H : Heap) (locs : List Loc) (ls : Array Slot), hs_H X.1 X.2.1 ad A a.1 H → va_S A s.heap H locs → lv_has ls 5 [(0, .ref (ad a.2.1)), (1, .ref (ad a.2.2.1)), (2, .int a.2.2.2.1), (3, .int a.2.2.2.2.1), (4, .int a.2.2.2.2.2)] → W p l e rmX4_readNumber s m args below meth c H locs 0 0 (MQ below (hs_Q0 hs_tvi X ad A r τ) args s 0 0 A) (F0 m 5 ls [])) (fun k a hk hf H locs ls hB hS hl => wX4_readNumber_5b fu C hem  _ (fun σ x0 x1 x2 x3 x4 H locs ls hf hB hS hl => hk (σ, x0, x1, x2, x3, x4) hf H locs ls hB hS hl) a.1 a.2.1 a.2.2.1 a.2.2.2.1 a.2.2.2.2.1 a.2.2.2.2.2 hf hB hS hl) fu (σ, x0, x1, x2, x3, x4) hf H locs ls hB hS hl
set_option maxRecDepth 100000 in
set_option maxHeartbeats 4000000 in
theorem wX4_readNumber_e (fu : Nat) (C : hs_Cx p s m args meth c X A yX4_readNumber cX4_readNumber 5 (some .boolean) wsX4_readNumber) (hem : ad hs_em = X.2.2.1.2.2.2) {H : Heap} {locs : List Loc} {ls : Array Slot} (σ : hs_T) (o : Nat) (a1 : Nat) (a2 : Int32) (hf : fX4_readNumber fu σ o a1 a2 = some (r, τ)) (hB : hs_H X.1 X.2.1 ad A σ H) (hS : va_S A s.heap H locs) (hl : lv_has ls 5 [(0, .ref (ad o)), (1, .ref (ad a1)), (2, .int a2)]) : W p l e rmX4_readNumber s m args below meth c H locs 0 0 (MQ below (hs_Q0 hs_tvi X ad A r τ) args s 0 0 A) (F0 m 0 ls []) := by
  obtain ⟨hx, hb, hml, hr, hts, hown, hlk, hnm, hV, hA0, hA⟩ := id C
  have hown : s.vm.findClass RX4 = some m.cls := hown
  have hK := hV.1
  have hNw := hV.2.1
  unfold fX4_readNumber at hf
  refine lv_iconst (v := 0) hx hb dX4_readNumber_0 (by decide) ?_
  refine lv_istore_n (lv' := [(3, .int 0), (0, .ref (ad o)), (1, .ref (ad a1)), (2, .int a2)]) hx hb dX4_readNumber_1 rfl hl (by decide) rfl (fun ls hl => ?_)
  refine lv_iconst (v := 0) hx hb dX4_readNumber_2 (by decide) ?_
  refine lv_istore (lv' := [(4, .int 0), (3, .int 0), (0, .ref (ad o)), (1, .ref (ad a1)), (2, .int a2)]) hx hb dX4_readNumber_3 hl (by decide) rfl (fun ls hl => ?_)
  exact wX4_readNumber_5 fu C hem σ o a1 a2 0 0 hf hB hS (lv_sub hl [2, 3, 4, 1, 0] rfl)
end SX4_readNumber
set_option maxRecDepth 100000 in
theorem ctX4_readNumber (l : Launch) (fu : Nat) (σ : hs_T) (o : Nat) (a1 : Nat) (a2 : Int32) : hs_C0 hs_tvi l yX4_readNumber wsX4_readNumber rmX4_readNumber (fun ad => [.ref (ad o), .ref (ad a1), .int a2]) σ (fX4_readNumber fu σ o a1 a2) := by
  intro X ad sz r τ hf
  refine hs_enter (cc := cX4_readNumber) (maxL := 5) (ret := (some .boolean)) (by decide) rfl (Nat.le_of_ble_eq_true rfl) ?_
  intro p e s m below meth c ls C hl hem hB hS hsz
  exact wX4_readNumber_e fu C hem σ o a1 a2 hf hB hS hl
/-! ServiceGame$Reader.readCell(LServiceGame$Tape;)Z -/
abbrev rmX4_readCell : Room := { frames := 1, cells := 0, slots := 0, locals := 21 }
theorem inX4_readCell_X4 : ∀ w ∈ wsX40, w ∈ wsX4_readCell := fun _ h => List.mem_cons_of_mem _ (List.mem_append_left _ (List.mem_append_right _ h))
theorem lkX4_readCell_0 : Cond.fieldLink RX4 18 "ServiceGame$Reader" "place" "I" ∈ wsX4_readCell := by decide +kernel
theorem lkX4_readCell_1 : Cond.initialized RX6 ∈ wsX4_readCell := by decide +kernel
theorem lkX4_readCell_2 : Cond.instanceMethod yX6_at ∈ wsX4_readCell := by decide +kernel
theorem lkX4_readCell_3 : Cond.selects RX6 yX6_at yX6_at ∈ wsX4_readCell := by decide +kernel
theorem lkX4_readCell_4 : Cond.fieldLink RX4 15 "ServiceGame$Reader" "numbers" "[I" ∈ wsX4_readCell := by decide +kernel
theorem lkX4_readCell_5 : Cond.fieldLink RX4 22 "ServiceGame$Reader" "size" "I" ∈ wsX4_readCell := by decide +kernel
def fX4_readCell (fu : Nat) (σ : hs_T) (o : Nat) (a1 : Nat) : Option (Int32 × hs_T) :=
 (hs_gI σ 6 o 3).bind fun v2 =>
 (hs_ck σ 8 a1).bind fun _ =>
 hs_b2 (fX6_at fu σ a1 v2) fun v6 σ4 =>
 if (v6 - 48) < 0 then
 (some (0, σ4))
 else
 (if (v6 - 48) < 8 then
 ((hs_gN σ4 6 o 1).bind fun n10 =>
 (hs_gI σ4 6 o 2).bind fun v12 =>
 (hs_st σ4 11 n10 v12 (v6 - 48)).bind fun σ13 =>
 (hs_gI σ13 6 o 3).bind fun v16 =>
 (hs_pI σ13 6 o 3 (v16 + 1)).bind fun σ18 =>
 some (1, σ18))
 else
 (some (0, σ4)))
section SX4_readCell
variable {p : Program} {l : Launch} {e : Env} {s : State} {m : MethodId} {args : Array Value} {below : List Frame} {meth : Method} {c : Code} {X : hs_X} {ad : Nat → Nat} {A : Nat → Prop} {r : Int32} {τ : hs_T}
set_option maxRecDepth 100000 in
set_option maxHeartbeats 4000000 in
theorem wX4_readCell_e (fu : Nat) (C : hs_Cx p s m args meth c X A yX4_readCell cX4_readCell 3 (some .boolean) wsX4_readCell) (hem : ad hs_em = X.2.2.1.2.2.2) {H : Heap} {locs : List Loc} {ls : Array Slot} (σ : hs_T) (o : Nat) (a1 : Nat) (hf : fX4_readCell fu σ o a1 = some (r, τ)) (hB : hs_H X.1 X.2.1 ad A σ H) (hS : va_S A s.heap H locs) (hl : lv_has ls 3 [(0, .ref (ad o)), (1, .ref (ad a1))]) : W p l e rmX4_readCell s m args below meth c H locs 0 0 (MQ below (hs_Q0 hs_tvi X ad A r τ) args s 0 0 A) (F0 m 0 ls []) := by
  obtain ⟨hx, hb, hml, hr, hts, hown, hlk, hnm, hV, hA0, hA⟩ := id C
  have hown : s.vm.findClass RX4 = some m.cls := hown
  have hK := hV.1
  have hNw := hV.2.1
  unfold fX4_readCell at hf
  refine lv_aload_n hx hb dX4_readCell_0 rfl (lv_at hl 1 rfl) ?_
  refine lv_aload_n hx hb dX4_readCell_1 rfl (lv_at hl 0 rfl) ?_
  obtain ⟨v2, h1, hf⟩ := hs_bi hf
  refine x_getI hx hb hts inX4_readCell_X4 hown hK hB (by decide) rfl (k := 3) (by decide) rfl h1 (hts _ lkX4_readCell_0) (fun _ h9 => h9) dX4_readCell_2 ?_
  obtain ⟨_, h5, hf⟩ := hs_bi hf
  obtain ⟨v6, σ4, h3, hf⟩ := hs_b2i hf
  refine hs_call0 (va_runVN (As := [.int v2]) (rest := []) ⟨hx, hb, hml, hown, hts⟩ (ctX6_at l fu σ a1 v2 X ad H.size _ _ h3) ⟨va_cnB 1 hts gX4_readCell_X6_at_n29 rfl rfl rfl (hNw (.methodLinkNest "ServiceGame$Reader" 29 yX6_at "ServiceGame") (by decide +kernel)) (hts _ lkX4_readCell_1) (by decide +kernel) ⟨Nat.le_of_ble_eq_true rfl, Nat.le_of_ble_eq_true rfl⟩, (hts _ lkX4_readCell_2), (hts _ lkX4_readCell_3)⟩ (hs_preV (hs_recv hK hB (hs_ck_i h5) (by decide) rfl) hV hB hS hA0 hA hem) rfl rfl hl.1 rfl (lv_room (Nat.le_of_ble_eq_true rfl)) dX4_readCell_5 ⟨Nat.le_of_ble_eq_true rfl, Nat.le_of_ble_eq_true rfl⟩) hB hS hA rfl (fun H locs hB hS => ?_)
  refine lv_bipush (v := 48) hx hb dX4_readCell_8 (by decide) ?_
  refine lv_isub hx hb dX4_readCell_10 ?_
  refine lv_istore_n (lv' := [(2, .int (v6 - 48)), (0, .ref (ad o)), (1, .ref (ad a1))]) hx hb dX4_readCell_11 rfl hl (by decide) rfl (fun ls hl => ?_)
  refine lv_iload_n hx hb dX4_readCell_12 rfl (lv_at hl 0 rfl) ?_
  refine lv_if_lt (tgt := 22) hx hb dX4_readCell_13 (by decide) (fun h7 => ?_) (fun h7 => ?_)
  · have hf := hs_tt h7 hf
    refine lv_iconst (v := 0) hx hb dX4_readCell_22 (by decide) ?_
    obtain ⟨rfl, rfl⟩ := hs_ri hf
    exact hs_zret hx hb hr hlk (by decide) hB hS dX4_readCell_23
  · have hf := hs_ff h7 hf
    refine lv_iload_n hx hb dX4_readCell_16 rfl (lv_at hl 0 rfl) ?_
    refine lv_bipush (v := 8) hx hb dX4_readCell_17 (by decide) ?_
    refine lv_icmp_lt (tgt := 24) hx hb dX4_readCell_19 (by decide) (fun h8 => ?_) (fun h8 => ?_)
    · have hf := hs_tt h8 hf
      refine lv_aload_n hx hb dX4_readCell_24 rfl (lv_at hl 1 rfl) ?_
      obtain ⟨n10, h9, hf⟩ := hs_bi hf
      refine x_getN hx hb hts inX4_readCell_X4 hown hK hB (by decide) rfl (k := 1) (by decide) rfl h9 (hts _ lkX4_readCell_4) (fun _ h9 => h9) dX4_readCell_25 ?_
      refine lv_aload_n hx hb dX4_readCell_28 rfl (lv_at hl 1 rfl) ?_
      obtain ⟨v12, h11, hf⟩ := hs_bi hf
      refine x_getI hx hb hts inX4_readCell_X4 hown hK hB (by decide) rfl (k := 2) (by decide) rfl h11 (hts _ lkX4_readCell_5) (fun _ h9 => h9) dX4_readCell_29 ?_
      refine lv_iload_n hx hb dX4_readCell_32 rfl (lv_at hl 0 rfl) ?_
      obtain ⟨σ13, h14, hf⟩ := hs_bi hf
      refine x_iast hx hb hK hB hS h14 dX4_readCell_33 (fun H locs hB hS => ?_)
      refine lv_aload_n hx hb dX4_readCell_34 rfl (lv_at hl 1 rfl) ?_
      refine lv_dup hx hb dX4_readCell_35 rfl ?_
      obtain ⟨v16, h15, hf⟩ := hs_bi hf
      refine x_getI hx hb hts inX4_readCell_X4 hown hK hB (by decide) rfl (k := 3) (by decide) rfl h15 (hts _ lkX4_readCell_0) (fun _ h9 => h9) dX4_readCell_36 ?_
      refine lv_iconst (v := 1) hx hb dX4_readCell_39 (by decide) ?_
      refine lv_iadd hx hb dX4_readCell_40 ?_
      obtain ⟨σ18, h17, hf⟩ := hs_bi hf
      refine x_putI hx hb hts inX4_readCell_X4 tyX4_ok nmX4 hown hK hB hS (by decide) rfl (k := 3) (by decide) rfl h17 (hts _ lkX4_readCell_0) (fun _ h9 => h9) rfl (by decide +kernel) dX4_readCell_41 (fun H locs hB hS => ?_)
      refine lv_iconst (v := 1) hx hb dX4_readCell_44 (by decide) ?_
      obtain ⟨rfl, rfl⟩ := hs_ri hf
      exact hs_zret hx hb hr hlk (by decide) hB hS dX4_readCell_45
    · have hf := hs_ff h8 hf
      refine lv_iconst (v := 0) hx hb dX4_readCell_22 (by decide) ?_
      obtain ⟨rfl, rfl⟩ := hs_ri hf
      exact hs_zret hx hb hr hlk (by decide) hB hS dX4_readCell_23
end SX4_readCell
set_option maxRecDepth 100000 in
theorem ctX4_readCell (l : Launch) (fu : Nat) (σ : hs_T) (o : Nat) (a1 : Nat) : hs_C0 hs_tvi l yX4_readCell wsX4_readCell rmX4_readCell (fun ad => [.ref (ad o), .ref (ad a1)]) σ (fX4_readCell fu σ o a1) := by
  intro X ad sz r τ hf
  refine hs_enter (cc := cX4_readCell) (maxL := 3) (ret := (some .boolean)) (by decide) rfl (Nat.le_of_ble_eq_true rfl) ?_
  intro p e s m below meth c ls C hl hem hB hS hsz
  exact wX4_readCell_e fu C hem σ o a1 hf hB hS hl
/-! ServiceGame$Reader.readStep(LServiceGame$Tape;)Z -/
abbrev rmX4_readStep : Room := { frames := 2, cells := 0, slots := 0, locals := 45 }
theorem inX4_readStep_X4 : ∀ w ∈ wsX40, w ∈ wsX4_readStep := fun _ h => List.mem_cons_of_mem _ (List.mem_append_left _ (List.mem_append_right _ h))
theorem lkX4_readStep_0 : Cond.fieldLink RX4 18 "ServiceGame$Reader" "place" "I" ∈ wsX4_readStep := by decide +kernel
theorem lkX4_readStep_1 : Cond.initialized RX6 ∈ wsX4_readStep := by decide +kernel
theorem lkX4_readStep_2 : Cond.instanceMethod yX6_at ∈ wsX4_readStep := by decide +kernel
theorem lkX4_readStep_3 : Cond.selects RX6 yX6_at yX6_at ∈ wsX4_readStep := by decide +kernel
theorem lkX4_readStep_4 : Cond.fieldLink RX4 9 "ServiceGame$Reader" "signs" "[I" ∈ wsX4_readStep := by decide +kernel
theorem lkX4_readStep_5 : Cond.fieldLink RX4 22 "ServiceGame$Reader" "size" "I" ∈ wsX4_readStep := by decide +kernel
theorem lkX4_readStep_6 : Cond.fieldLink RX4 15 "ServiceGame$Reader" "numbers" "[I" ∈ wsX4_readStep := by decide +kernel
def fX4_readStep_152 (fu : Nat)  (σ : hs_T) (x0 : Nat) : Option (Int32 × hs_T) :=
 (hs_gI σ 6 x0 3).bind fun v21 =>
 (hs_pI σ 6 x0 3 (v21 + 1)).bind fun σ23 =>
 some (1, σ23)
def fX4_readStep_181 (fu : Nat)  (σ : hs_T) (x0 : Nat) (x1 : Nat) : Option (Int32 × hs_T) :=
 (hs_gI σ 6 x0 3).bind fun v32 =>
 (hs_pI σ 6 x0 3 (v32 + 1)).bind fun σ34 =>
 (hs_ck σ34 6 x0).bind fun _ =>
 hs_b2 (fX4_readNumber fu σ34 x0 x1 2) fun v38 σ36 =>
 (hs_bz v38).bind fun _ =>
 some (v38, σ36)
def fX4_readStep_198 (fu : Nat)  (σ : hs_T) (x0 : Nat) (x1 : Nat) : Option (Int32 × hs_T) :=
 (hs_gI σ 6 x0 3).bind fun v44 =>
 (hs_pI σ 6 x0 3 (v44 + 1)).bind fun σ46 =>
 (hs_ck σ46 6 x0).bind fun _ =>
 hs_b2 (fX4_readCell fu σ46 x0 x1) fun v50 σ48 =>
 (hs_bz v50).bind fun _ =>
 some (v50, σ48)
def fX4_readStep (fu : Nat) (σ : hs_T) (o : Nat) (a1 : Nat) : Option (Int32 × hs_T) :=
 (hs_gI σ 6 o 3).bind fun v2 =>
 (hs_ck σ 8 a1).bind fun _ =>
 hs_b2 (fX6_at fu σ a1 v2) fun v6 σ4 =>
 (hs_gN σ4 6 o 0).bind fun n8 =>
 (hs_gI σ4 6 o 2).bind fun v10 =>
 (hs_st σ4 11 n8 v10 v6).bind fun σ11 =>
 (hs_gN σ11 6 o 1).bind fun n14 =>
 (hs_gI σ11 6 o 2).bind fun v16 =>
 (hs_st σ11 11 n14 v16 0).bind fun σ17 =>
 if v6 = 42 then
 (fX4_readStep_152 fu σ17 o)
 else
 if v6 = 43 then
 (fX4_readStep_152 fu σ17 o)
 else
 if v6 = 45 then
 (fX4_readStep_152 fu σ17 o)
 else
 if v6 = 60 then
 (fX4_readStep_152 fu σ17 o)
 else
 if v6 = 61 then
 (fX4_readStep_152 fu σ17 o)
 else
 if v6 = 97 then
 (fX4_readStep_152 fu σ17 o)
 else
 if v6 = 98 then
 (fX4_readStep_152 fu σ17 o)
 else
 if v6 = 103 then
 (fX4_readStep_181 fu σ17 o a1)
 else
 if v6 = 104 then
 (fX4_readStep_152 fu σ17 o)
 else
 if v6 = 106 then
 (fX4_readStep_181 fu σ17 o a1)
 else
 if v6 = 108 then
 (fX4_readStep_198 fu σ17 o a1)
 else
 if v6 = 111 then
 (fX4_readStep_152 fu σ17 o)
 else
 if v6 = 112 then
 ((hs_gI σ17 6 o 3).bind fun v55 =>
 (hs_pI σ17 6 o 3 (v55 + 1)).bind fun σ57 =>
 (hs_ck σ57 6 o).bind fun _ =>
 hs_b2 (fX4_readNumber fu σ57 o a1 4) fun v61 σ59 =>
 (hs_bz v61).bind fun _ =>
 some (v61, σ59))
 else
 if v6 = 115 then
 (fX4_readStep_198 fu σ17 o a1)
 else
 (some (0, σ17))
section SX4_readStep
variable {p : Program} {l : Launch} {e : Env} {s : State} {m : MethodId} {args : Array Value} {below : List Frame} {meth : Method} {c : Code} {X : hs_X} {ad : Nat → Nat} {A : Nat → Prop} {r : Int32} {τ : hs_T}
set_option maxRecDepth 100000 in
set_option maxHeartbeats 4000000 in
theorem wX4_readStep_152 (fu : Nat) (C : hs_Cx p s m args meth c X A yX4_readStep cX4_readStep 3 (some .boolean) wsX4_readStep) (hem : ad hs_em = X.2.2.1.2.2.2)  {H : Heap} {locs : List Loc} {ls : Array Slot} (σ : hs_T) (x0 : Nat) (hf : fX4_readStep_152 fu  σ x0 = some (r, τ)) (hB : hs_H X.1 X.2.1 ad A σ H) (hS : va_S A s.heap H locs) (hl : lv_has ls 3 [(0, .ref (ad x0))]) : W p l e rmX4_readStep s m args below meth c H locs 0 0 (MQ below (hs_Q0 hs_tvi X ad A r τ) args s 0 0 A) (F0 m 152 ls []) := by
  obtain ⟨hx, hb, hml, hr, hts, hown, hlk, hnm, hV, hA0, hA⟩ := id C
  have hown : s.vm.findClass RX4 = some m.cls := hown
  have hK := hV.1
  have hNw := hV.2.1
  unfold fX4_readStep_152 at hf
  refine lv_aload_n hx hb dX4_readStep_152 rfl (lv_at hl 0 rfl) ?_
  refine lv_dup hx hb dX4_readStep_153 rfl ?_
  obtain ⟨v21, h20, hf⟩ := hs_bi hf
  refine x_getI hx hb hts inX4_readStep_X4 hown hK hB (by decide) rfl (k := 3) (by decide) rfl h20 (hts _ lkX4_readStep_0) (fun _ h9 => h9) dX4_readStep_154 ?_
  refine lv_iconst (v := 1) hx hb dX4_readStep_157 (by decide) ?_
  refine lv_iadd hx hb dX4_readStep_158 ?_
  obtain ⟨σ23, h22, hf⟩ := hs_bi hf
  refine x_putI hx hb hts inX4_readStep_X4 tyX4_ok nmX4 hown hK hB hS (by decide) rfl (k := 3) (by decide) rfl h22 (hts _ lkX4_readStep_0) (fun _ h9 => h9) rfl (by decide +kernel) dX4_readStep_159 (fun H locs hB hS => ?_)
  refine lv_iconst (v := 1) hx hb dX4_readStep_162 (by decide) ?_
  obtain ⟨rfl, rfl⟩ := hs_ri hf
  exact hs_zret hx hb hr hlk (by decide) hB hS dX4_readStep_163
set_option maxRecDepth 100000 in
set_option maxHeartbeats 4000000 in
theorem wX4_readStep_181 (fu : Nat) (C : hs_Cx p s m args meth c X A yX4_readStep cX4_readStep 3 (some .boolean) wsX4_readStep) (hem : ad hs_em = X.2.2.1.2.2.2)  {H : Heap} {locs : List Loc} {ls : Array Slot} (σ : hs_T) (x0 : Nat) (x1 : Nat) (hf : fX4_readStep_181 fu  σ x0 x1 = some (r, τ)) (hB : hs_H X.1 X.2.1 ad A σ H) (hS : va_S A s.heap H locs) (hl : lv_has ls 3 [(0, .ref (ad x0)), (1, .ref (ad x1))]) : W p l e rmX4_readStep s m args below meth c H locs 0 0 (MQ below (hs_Q0 hs_tvi X ad A r τ) args s 0 0 A) (F0 m 181 ls []) := by
  obtain ⟨hx, hb, hml, hr, hts, hown, hlk, hnm, hV, hA0, hA⟩ := id C
  have hown : s.vm.findClass RX4 = some m.cls := hown
  have hK := hV.1
  have hNw := hV.2.1
  unfold fX4_readStep_181 at hf
  refine lv_aload_n hx hb dX4_readStep_181 rfl (lv_at hl 0 rfl) ?_
  refine lv_dup hx hb dX4_readStep_182 rfl ?_
  obtain ⟨v32, h31, hf⟩ := hs_bi hf
  refine x_getI hx hb hts inX4_readStep_X4 hown hK hB (by decide) rfl (k := 3) (by decide) rfl h31 (hts _ lkX4_readStep_0) (fun _ h9 => h9) dX4_readStep_183 ?_
  refine lv_iconst (v := 1) hx hb dX4_readStep_186 (by decide) ?_
  refine lv_iadd hx hb dX4_readStep_187 ?_
  obtain ⟨σ34, h33, hf⟩ := hs_bi hf
  refine x_putI hx hb hts inX4_readStep_X4 tyX4_ok nmX4 hown hK hB hS (by decide) rfl (k := 3) (by decide) rfl h33 (hts _ lkX4_readStep_0) (fun _ h9 => h9) rfl (by decide +kernel) dX4_readStep_188 (fun H locs hB hS => ?_)
  refine lv_aload_n hx hb dX4_readStep_191 rfl (lv_at hl 0 rfl) ?_
  refine lv_aload_n hx hb dX4_readStep_192 rfl (lv_at hl 1 rfl) ?_
  refine lv_iconst (v := 2) hx hb dX4_readStep_193 (by decide) ?_
  obtain ⟨_, h37, hf⟩ := hs_bi hf
  obtain ⟨v38, σ36, h35, hf⟩ := hs_b2i hf
  refine hs_call0 (va_runV (As := [.ref (ad x1), .int 2]) (rest := []) ⟨hx, hb, hml, hown, hts⟩ (ctX4_readNumber l fu σ34 x0 x1 2 X ad H.size _ _ h35) (cwV 2 hts gX4_readStep_X4_readNumber rfl rfl rfl (by decide +kernel) ⟨Nat.le_of_ble_eq_true rfl, Nat.le_of_ble_eq_true rfl⟩) (hs_preV (hs_recv hK hB (hs_ck_i h37) (by decide) rfl) hV hB hS hA0 hA hem) rfl rfl hl.1 rfl (lv_room (Nat.le_of_ble_eq_true rfl)) dX4_readStep_194 ⟨Nat.le_of_ble_eq_true rfl, Nat.le_of_ble_eq_true rfl⟩) hB hS hA rfl (fun H locs hB hS => ?_)
  obtain ⟨_, h39, hf⟩ := hs_bi hf
  obtain ⟨rfl, rfl⟩ := hs_ri hf
  exact hs_zret hx hb hr hlk (hs_bz_i h39) hB hS dX4_readStep_197
set_option maxRecDepth 100000 in
set_option maxHeartbeats 4000000 in
theorem wX4_readStep_198 (fu : Nat) (C : hs_Cx p s m args meth c X A yX4_readStep cX4_readStep 3 (some .boolean) wsX4_readStep) (hem : ad hs_em = X.2.2.1.2.2.2)  {H : Heap} {locs : List Loc} {ls : Array Slot} (σ : hs_T) (x0 : Nat) (x1 : Nat) (hf : fX4_readStep_198 fu  σ x0 x1 = some (r, τ)) (hB : hs_H X.1 X.2.1 ad A σ H) (hS : va_S A s.heap H locs) (hl : lv_has ls 3 [(0, .ref (ad x0)), (1, .ref (ad x1))]) : W p l e rmX4_readStep s m args below meth c H locs 0 0 (MQ below (hs_Q0 hs_tvi X ad A r τ) args s 0 0 A) (F0 m 198 ls []) := by
  obtain ⟨hx, hb, hml, hr, hts, hown, hlk, hnm, hV, hA0, hA⟩ := id C
  have hown : s.vm.findClass RX4 = some m.cls := hown
  have hK := hV.1
  have hNw := hV.2.1
  unfold fX4_readStep_198 at hf
  refine lv_aload_n hx hb dX4_readStep_198 rfl (lv_at hl 0 rfl) ?_
  refine lv_dup hx hb dX4_readStep_199 rfl ?_
  obtain ⟨v44, h43, hf⟩ := hs_bi hf
  refine x_getI hx hb hts inX4_readStep_X4 hown hK hB (by decide) rfl (k := 3) (by decide) rfl h43 (hts _ lkX4_readStep_0) (fun _ h9 => h9) dX4_readStep_200 ?_
  refine lv_iconst (v := 1) hx hb dX4_readStep_203 (by decide) ?_
  refine lv_iadd hx hb dX4_readStep_204 ?_
  obtain ⟨σ46, h45, hf⟩ := hs_bi hf
  refine x_putI hx hb hts inX4_readStep_X4 tyX4_ok nmX4 hown hK hB hS (by decide) rfl (k := 3) (by decide) rfl h45 (hts _ lkX4_readStep_0) (fun _ h9 => h9) rfl (by decide +kernel) dX4_readStep_205 (fun H locs hB hS => ?_)
  refine lv_aload_n hx hb dX4_readStep_208 rfl (lv_at hl 0 rfl) ?_
  refine lv_aload_n hx hb dX4_readStep_209 rfl (lv_at hl 1 rfl) ?_
  obtain ⟨_, h49, hf⟩ := hs_bi hf
  obtain ⟨v50, σ48, h47, hf⟩ := hs_b2i hf
  refine hs_call0 (va_runV (As := [.ref (ad x1)]) (rest := []) ⟨hx, hb, hml, hown, hts⟩ (ctX4_readCell l fu σ46 x0 x1 X ad H.size _ _ h47) (cwV 1 hts gX4_readStep_X4_readCell rfl rfl rfl (by decide +kernel) ⟨Nat.le_of_ble_eq_true rfl, Nat.le_of_ble_eq_true rfl⟩) (hs_preV (hs_recv hK hB (hs_ck_i h49) (by decide) rfl) hV hB hS hA0 hA hem) rfl rfl hl.1 rfl (lv_room (Nat.le_of_ble_eq_true rfl)) dX4_readStep_210 ⟨Nat.le_of_ble_eq_true rfl, Nat.le_of_ble_eq_true rfl⟩) hB hS hA rfl (fun H locs hB hS => ?_)
  obtain ⟨_, h51, hf⟩ := hs_bi hf
  obtain ⟨rfl, rfl⟩ := hs_ri hf
  exact hs_zret hx hb hr hlk (hs_bz_i h51) hB hS dX4_readStep_213
set_option maxRecDepth 100000 in
set_option maxHeartbeats 4000000 in
theorem wX4_readStep_e (fu : Nat) (C : hs_Cx p s m args meth c X A yX4_readStep cX4_readStep 3 (some .boolean) wsX4_readStep) (hem : ad hs_em = X.2.2.1.2.2.2) {H : Heap} {locs : List Loc} {ls : Array Slot} (σ : hs_T) (o : Nat) (a1 : Nat) (hf : fX4_readStep fu σ o a1 = some (r, τ)) (hB : hs_H X.1 X.2.1 ad A σ H) (hS : va_S A s.heap H locs) (hl : lv_has ls 3 [(0, .ref (ad o)), (1, .ref (ad a1))]) : W p l e rmX4_readStep s m args below meth c H locs 0 0 (MQ below (hs_Q0 hs_tvi X ad A r τ) args s 0 0 A) (F0 m 0 ls []) := by
  obtain ⟨hx, hb, hml, hr, hts, hown, hlk, hnm, hV, hA0, hA⟩ := id C
  have hown : s.vm.findClass RX4 = some m.cls := hown
  have hK := hV.1
  have hNw := hV.2.1
  unfold fX4_readStep at hf
  refine lv_aload_n hx hb dX4_readStep_0 rfl (lv_at hl 1 rfl) ?_
  refine lv_aload_n hx hb dX4_readStep_1 rfl (lv_at hl 0 rfl) ?_
  obtain ⟨v2, h1, hf⟩ := hs_bi hf
  refine x_getI hx hb hts inX4_readStep_X4 hown hK hB (by decide) rfl (k := 3) (by decide) rfl h1 (hts _ lkX4_readStep_0) (fun _ h9 => h9) dX4_readStep_2 ?_
  obtain ⟨_, h5, hf⟩ := hs_bi hf
  obtain ⟨v6, σ4, h3, hf⟩ := hs_b2i hf
  refine hs_call0 (va_runVN (As := [.int v2]) (rest := []) ⟨hx, hb, hml, hown, hts⟩ (ctX6_at l fu σ a1 v2 X ad H.size _ _ h3) ⟨va_cnB 1 hts gX4_readStep_X6_at_n29 rfl rfl rfl (hNw (.methodLinkNest "ServiceGame$Reader" 29 yX6_at "ServiceGame") (by decide +kernel)) (hts _ lkX4_readStep_1) (by decide +kernel) ⟨Nat.le_of_ble_eq_true rfl, Nat.le_of_ble_eq_true rfl⟩, (hts _ lkX4_readStep_2), (hts _ lkX4_readStep_3)⟩ (hs_preV (hs_recv hK hB (hs_ck_i h5) (by decide) rfl) hV hB hS hA0 hA hem) rfl rfl hl.1 rfl (lv_room (Nat.le_of_ble_eq_true rfl)) dX4_readStep_5 ⟨Nat.le_of_ble_eq_true rfl, Nat.le_of_ble_eq_true rfl⟩) hB hS hA rfl (fun H locs hB hS => ?_)
  refine lv_istore_n (lv' := [(2, .int v6), (0, .ref (ad o)), (1, .ref (ad a1))]) hx hb dX4_readStep_8 rfl hl (by decide) rfl (fun ls hl => ?_)
  refine lv_aload_n hx hb dX4_readStep_9 rfl (lv_at hl 1 rfl) ?_
  obtain ⟨n8, h7, hf⟩ := hs_bi hf
  refine x_getN hx hb hts inX4_readStep_X4 hown hK hB (by decide) rfl (k := 0) (by decide) rfl h7 (hts _ lkX4_readStep_4) (fun _ h9 => h9) dX4_readStep_10 ?_
  refine lv_aload_n hx hb dX4_readStep_13 rfl (lv_at hl 1 rfl) ?_
  obtain ⟨v10, h9, hf⟩ := hs_bi hf
  refine x_getI hx hb hts inX4_readStep_X4 hown hK hB (by decide) rfl (k := 2) (by decide) rfl h9 (hts _ lkX4_readStep_5) (fun _ h9 => h9) dX4_readStep_14 ?_
  refine lv_iload_n hx hb dX4_readStep_17 rfl (lv_at hl 0 rfl) ?_
  obtain ⟨σ11, h12, hf⟩ := hs_bi hf
  refine x_iast hx hb hK hB hS h12 dX4_readStep_18 (fun H locs hB hS => ?_)
  refine lv_aload_n hx hb dX4_readStep_19 rfl (lv_at hl 1 rfl) ?_
  obtain ⟨n14, h13, hf⟩ := hs_bi hf
  refine x_getN hx hb hts inX4_readStep_X4 hown hK hB (by decide) rfl (k := 1) (by decide) rfl h13 (hts _ lkX4_readStep_6) (fun _ h9 => h9) dX4_readStep_20 ?_
  refine lv_aload_n hx hb dX4_readStep_23 rfl (lv_at hl 1 rfl) ?_
  obtain ⟨v16, h15, hf⟩ := hs_bi hf
  refine x_getI hx hb hts inX4_readStep_X4 hown hK hB (by decide) rfl (k := 2) (by decide) rfl h15 (hts _ lkX4_readStep_5) (fun _ h9 => h9) dX4_readStep_24 ?_
  refine lv_iconst (v := 0) hx hb dX4_readStep_27 (by decide) ?_
  obtain ⟨σ17, h18, hf⟩ := hs_bi hf
  refine x_iast hx hb hK hB hS h18 dX4_readStep_28 (fun H locs hB hS => ?_)
  refine lv_iload_n hx hb dX4_readStep_29 rfl (lv_at hl 0 rfl) ?_
  by_cases h19 : v6 = 42
  · have hf := hs_tt h19 hf
    refine lv_lookup (tgt := 152) (off := 122) hx hb dX4_readStep_30 (by decide) (by rw [h19]; decide) (by decide) ?_
    exact wX4_readStep_152 fu C hem σ17 o hf hB hS (lv_sub hl [1] rfl)
  have hf := hs_ff h19 hf
  by_cases h24 : v6 = 43
  · have hf := hs_tt h24 hf
    refine lv_lookup (tgt := 152) (off := 122) hx hb dX4_readStep_30 (by decide) (by rw [h24]; decide) (by decide) ?_
    exact wX4_readStep_152 fu C hem σ17 o hf hB hS (lv_sub hl [1] rfl)
  have hf := hs_ff h24 hf
  by_cases h25 : v6 = 45
  · have hf := hs_tt h25 hf
    refine lv_lookup (tgt := 152) (off := 122) hx hb dX4_readStep_30 (by decide) (by rw [h25]; decide) (by decide) ?_
    exact wX4_readStep_152 fu C hem σ17 o hf hB hS (lv_sub hl [1] rfl)
  have hf := hs_ff h25 hf
  by_cases h26 : v6 = 60
  · have hf := hs_tt h26 hf
    refine lv_lookup (tgt := 152) (off := 122) hx hb dX4_readStep_30 (by decide) (by rw [h26]; decide) (by decide) ?_
    exact wX4_readStep_152 fu C hem σ17 o hf hB hS (lv_sub hl [1] rfl)
  have hf := hs_ff h26 hf
  by_cases h27 : v6 = 61
  · have hf := hs_tt h27 hf
    refine lv_lookup (tgt := 152) (off := 122) hx hb dX4_readStep_30 (by decide) (by rw [h27]; decide) (by decide) ?_
    exact wX4_readStep_152 fu C hem σ17 o hf hB hS (lv_sub hl [1] rfl)
  have hf := hs_ff h27 hf
  by_cases h28 : v6 = 97
  · have hf := hs_tt h28 hf
    refine lv_lookup (tgt := 152) (off := 122) hx hb dX4_readStep_30 (by decide) (by rw [h28]; decide) (by decide) ?_
    exact wX4_readStep_152 fu C hem σ17 o hf hB hS (lv_sub hl [1] rfl)
  have hf := hs_ff h28 hf
  by_cases h29 : v6 = 98
  · have hf := hs_tt h29 hf
    refine lv_lookup (tgt := 152) (off := 122) hx hb dX4_readStep_30 (by decide) (by rw [h29]; decide) (by decide) ?_
    exact wX4_readStep_152 fu C hem σ17 o hf hB hS (lv_sub hl [1] rfl)
  have hf := hs_ff h29 hf
  by_cases h30 : v6 = 103
  · have hf := hs_tt h30 hf
    refine lv_lookup (tgt := 181) (off := 151) hx hb dX4_readStep_30 (by decide) (by rw [h30]; decide) (by decide) ?_
    exact wX4_readStep_181 fu C hem σ17 o a1 hf hB hS (lv_sub hl [1, 2] rfl)
  have hf := hs_ff h30 hf
  by_cases h40 : v6 = 104
  · have hf := hs_tt h40 hf
    refine lv_lookup (tgt := 152) (off := 122) hx hb dX4_readStep_30 (by decide) (by rw [h40]; decide) (by decide) ?_
    exact wX4_readStep_152 fu C hem σ17 o hf hB hS (lv_sub hl [1] rfl)
  have hf := hs_ff h40 hf
  by_cases h41 : v6 = 106
  · have hf := hs_tt h41 hf
    refine lv_lookup (tgt := 181) (off := 151) hx hb dX4_readStep_30 (by decide) (by rw [h41]; decide) (by decide) ?_
    exact wX4_readStep_181 fu C hem σ17 o a1 hf hB hS (lv_sub hl [1, 2] rfl)
  have hf := hs_ff h41 hf
  by_cases h42 : v6 = 108
  · have hf := hs_tt h42 hf
    refine lv_lookup (tgt := 198) (off := 168) hx hb dX4_readStep_30 (by decide) (by rw [h42]; decide) (by decide) ?_
    exact wX4_readStep_198 fu C hem σ17 o a1 hf hB hS (lv_sub hl [1, 2] rfl)
  have hf := hs_ff h42 hf
  by_cases h52 : v6 = 111
  · have hf := hs_tt h52 hf
    refine lv_lookup (tgt := 152) (off := 122) hx hb dX4_readStep_30 (by decide) (by rw [h52]; decide) (by decide) ?_
    exact wX4_readStep_152 fu C hem σ17 o hf hB hS (lv_sub hl [1] rfl)
  have hf := hs_ff h52 hf
  by_cases h53 : v6 = 112
  · have hf := hs_tt h53 hf
    refine lv_lookup (tgt := 164) (off := 134) hx hb dX4_readStep_30 (by decide) (by rw [h53]; decide) (by decide) ?_
    refine lv_aload_n hx hb dX4_readStep_164 rfl (lv_at hl 1 rfl) ?_
    refine lv_dup hx hb dX4_readStep_165 rfl ?_
    obtain ⟨v55, h54, hf⟩ := hs_bi hf
    refine x_getI hx hb hts inX4_readStep_X4 hown hK hB (by decide) rfl (k := 3) (by decide) rfl h54 (hts _ lkX4_readStep_0) (fun _ h9 => h9) dX4_readStep_166 ?_
    refine lv_iconst (v := 1) hx hb dX4_readStep_169 (by decide) ?_
    refine lv_iadd hx hb dX4_readStep_170 ?_
    obtain ⟨σ57, h56, hf⟩ := hs_bi hf
    refine x_putI hx hb hts inX4_readStep_X4 tyX4_ok nmX4 hown hK hB hS (by decide) rfl (k := 3) (by decide) rfl h56 (hts _ lkX4_readStep_0) (fun _ h9 => h9) rfl (by decide +kernel) dX4_readStep_171 (fun H locs hB hS => ?_)
    refine lv_aload_n hx hb dX4_readStep_174 rfl (lv_at hl 1 rfl) ?_
    refine lv_aload_n hx hb dX4_readStep_175 rfl (lv_at hl 2 rfl) ?_
    refine lv_iconst (v := 4) hx hb dX4_readStep_176 (by decide) ?_
    obtain ⟨_, h60, hf⟩ := hs_bi hf
    obtain ⟨v61, σ59, h58, hf⟩ := hs_b2i hf
    refine hs_call0 (va_runV (As := [.ref (ad a1), .int 4]) (rest := []) ⟨hx, hb, hml, hown, hts⟩ (ctX4_readNumber l fu σ57 o a1 4 X ad H.size _ _ h58) (cwV 2 hts gX4_readStep_X4_readNumber rfl rfl rfl (by decide +kernel) ⟨Nat.le_of_ble_eq_true rfl, Nat.le_of_ble_eq_true rfl⟩) (hs_preV (hs_recv hK hB (hs_ck_i h60) (by decide) rfl) hV hB hS hA0 hA hem) rfl rfl hl.1 rfl (lv_room (Nat.le_of_ble_eq_true rfl)) dX4_readStep_177 ⟨Nat.le_of_ble_eq_true rfl, Nat.le_of_ble_eq_true rfl⟩) hB hS hA rfl (fun H locs hB hS => ?_)
    obtain ⟨_, h62, hf⟩ := hs_bi hf
    obtain ⟨rfl, rfl⟩ := hs_ri hf
    exact hs_zret hx hb hr hlk (hs_bz_i h62) hB hS dX4_readStep_180
  have hf := hs_ff h53 hf
  by_cases h63 : v6 = 115
  · have hf := hs_tt h63 hf
    refine lv_lookup (tgt := 198) (off := 168) hx hb dX4_readStep_30 (by decide) (by rw [h63]; decide) (by decide) ?_
    exact wX4_readStep_198 fu C hem σ17 o a1 hf hB hS (lv_sub hl [1, 2] rfl)
  have hf := hs_ff h63 hf
  refine lv_lookup (tgt := 214) (off := 184) hx hb dX4_readStep_30 (by decide) (by rw [lv_osw h19 (a := 42) (by decide), lv_osw h24 (a := 43) (by decide), lv_osw h25 (a := 45) (by decide), lv_osw h26 (a := 60) (by decide), lv_osw h27 (a := 61) (by decide), lv_osw h28 (a := 97) (by decide), lv_osw h29 (a := 98) (by decide), lv_osw h30 (a := 103) (by decide), lv_osw h40 (a := 104) (by decide), lv_osw h41 (a := 106) (by decide), lv_osw h42 (a := 108) (by decide), lv_osw h52 (a := 111) (by decide), lv_osw h53 (a := 112) (by decide), lv_osw h63 (a := 115) (by decide)]; rfl) (by decide) ?_
  refine lv_iconst (v := 0) hx hb dX4_readStep_214 (by decide) ?_
  obtain ⟨rfl, rfl⟩ := hs_ri hf
  exact hs_zret hx hb hr hlk (by decide) hB hS dX4_readStep_215
end SX4_readStep
set_option maxRecDepth 100000 in
theorem ctX4_readStep (l : Launch) (fu : Nat) (σ : hs_T) (o : Nat) (a1 : Nat) : hs_C0 hs_tvi l yX4_readStep wsX4_readStep rmX4_readStep (fun ad => [.ref (ad o), .ref (ad a1)]) σ (fX4_readStep fu σ o a1) := by
  intro X ad sz r τ hf
  refine hs_enter (cc := cX4_readStep) (maxL := 3) (ret := (some .boolean)) (by decide) rfl (Nat.le_of_ble_eq_true rfl) ?_
  intro p e s m below meth c ls C hl hem hB hS hsz
  exact wX4_readStep_e fu C hem σ o a1 hf hB hS hl
/-! ServiceGame$Reader.lostStep()I -/
abbrev rmX4_lostStep : Room := { frames := 0, cells := 0, slots := 0, locals := 0 }
theorem inX4_lostStep_X4 : ∀ w ∈ wsX40, w ∈ wsX4_lostStep := fun _ h => List.mem_cons_of_mem _ (List.mem_append_right _ h)
theorem lkX4_lostStep_0 : Cond.fieldLink RX4 22 "ServiceGame$Reader" "size" "I" ∈ wsX4_lostStep := by decide +kernel
theorem lkX4_lostStep_1 : Cond.fieldLink RX4 9 "ServiceGame$Reader" "signs" "[I" ∈ wsX4_lostStep := by decide +kernel
theorem lkX4_lostStep_2 : Cond.fieldLink RX4 15 "ServiceGame$Reader" "numbers" "[I" ∈ wsX4_lostStep := by decide +kernel
def fX4_lostStep_37 (fu : Nat) (k2 : hs_T → Nat → Int32 → Option (Int32 × hs_T)) (σ : hs_T) (x0 : Nat) (x1 : Int32) (y0 : Int32) : Option (Int32 × hs_T) :=
 if y0 = 0 then
 (k2 σ x0 (x1 + 1))
 else
 ((hs_gN σ 6 x0 1).bind fun n11 =>
 (hs_ld σ 11 n11 x1).bind fun v12 =>
 (hs_gI σ 6 x0 2).bind fun v15 =>
 if v12 < v15 then
 (k2 σ x0 (x1 + 1))
 else
 (some ((200 + x1), σ)))
def fX4_lostStep_32 (fu : Nat) (k2 : hs_T → Nat → Int32 → Option (Int32 × hs_T)) (σ : hs_T) (x0 : Nat) (x1 : Int32) : Option (Int32 × hs_T) :=
 fX4_lostStep_37 fu k2 σ x0 x1 1
def fX4_lostStep_2b (fu : Nat)  (k2 : hs_T → Nat → Int32 → Option (Int32 × hs_T)) (σ : hs_T) (x0 : Nat) (x1 : Int32) : Option (Int32 × hs_T) :=
 (hs_gI σ 6 x0 2).bind fun v2 =>
 if v2 ≤ x1 then
 (some ((-1), σ))
 else
 ((hs_gN σ 6 x0 0).bind fun n5 =>
 (hs_ld σ 11 n5 x1).bind fun v6 =>
 if v6 = 106 then
 (fX4_lostStep_32 fu k2 σ x0 x1)
 else
 ((hs_gN σ 6 x0 0).bind fun n18 =>
 (hs_ld σ 11 n18 x1).bind fun v19 =>
 if v19 = 103 then
 (fX4_lostStep_32 fu k2 σ x0 x1)
 else
 (fX4_lostStep_37 fu k2 σ x0 x1 0)))
def fX4_lostStep_2 (fu : Nat)  (σ : hs_T) (x0 : Nat) (x1 : Int32) : Option (Int32 × hs_T) :=
   hs_lp (fun (k : hs_T × Nat × Int32 → Option (Int32 × hs_T)) (a : hs_T × Nat × Int32) => fX4_lostStep_2b fu  (fun σ x0 x1 => k (σ, x0, x1)) a.1 a.2.1 a.2.2) fu (σ, x0, x1)
def fX4_lostStep (fu : Nat) (σ : hs_T) (o : Nat) : Option (Int32 × hs_T) :=
 fX4_lostStep_2 fu σ o 0
section SX4_lostStep
variable {p : Program} {l : Launch} {e : Env} {s : State} {m : MethodId} {args : Array Value} {below : List Frame} {meth : Method} {c : Code} {X : hs_X} {ad : Nat → Nat} {A : Nat → Prop} {r : Int32} {τ : hs_T}
set_option maxRecDepth 100000 in
set_option maxHeartbeats 4000000 in
theorem wX4_lostStep_37 (fu : Nat) (C : hs_Cx p s m args meth c X A yX4_lostStep cX4_lostStep 3 (some .int) wsX4_lostStep) (hem : ad hs_em = X.2.2.1.2.2.2) (k2 : hs_T → Nat → Int32 → Option (Int32 × hs_T)) (hk2 : ∀ (σ : hs_T) (x0 : Nat) (x1 : Int32) (H : Heap) (locs : List Loc) (ls : Array Slot), k2 σ x0 x1 = some (r, τ) → hs_H X.1 X.2.1 ad A σ H → va_S A s.heap H locs → lv_has ls 3 [(0, .ref (ad x0)), (1, .int x1)] → W p l e rmX4_lostStep s m args below meth c H locs 0 0 (MQ below (hs_Q0 hs_tvi X ad A r τ) args s 0 0 A) (F0 m 2 ls [])) {H : Heap} {locs : List Loc} {ls : Array Slot} (σ : hs_T) (x0 : Nat) (x1 : Int32) (y0 : Int32) (hf : fX4_lostStep_37 fu k2 σ x0 x1 y0 = some (r, τ)) (hB : hs_H X.1 X.2.1 ad A σ H) (hS : va_S A s.heap H locs) (hl : lv_has ls 3 [(0, .ref (ad x0)), (1, .int x1)]) : W p l e rmX4_lostStep s m args below meth c H locs 0 0 (MQ below (hs_Q0 hs_tvi X ad A r τ) args s 0 0 A) (F0 m 37 ls [.int y0]) := by
  obtain ⟨hx, hb, hml, hr, hts, hown, hlk, hnm, hV, hA0, hA⟩ := id C
  have hown : s.vm.findClass RX4 = some m.cls := hown
  have hK := hV.1
  have hNw := hV.2.1
  unfold fX4_lostStep_37 at hf
  refine lv_istore_n (lv' := [(2, .int y0), (0, .ref (ad x0)), (1, .int x1)]) hx hb dX4_lostStep_37 rfl hl (by decide) rfl (fun ls hl => ?_)
  refine lv_iload_n hx hb dX4_lostStep_38 rfl (lv_at hl 0 rfl) ?_
  refine lv_if_eq (tgt := 61) hx hb dX4_lostStep_39 (by decide) (fun h9 => ?_) (fun h9 => ?_)
  · have hf := hs_tt h9 hf
    refine lv_iinc (v := (x1 + 1)) (lv' := [(1, .int (x1 + 1)), (2, .int y0), (0, .ref (ad x0))]) hx hb dX4_lostStep_61 hl (k := 2) rfl rfl (by decide) rfl (fun ls hl => ?_)
    refine lv_goto (tgt := 2) hx hb dX4_lostStep_64 (by decide) ?_
    exact hk2 σ x0 (x1 + 1) _ _ _ hf hB hS (lv_sub hl [2, 0] rfl)
  · have hf := hs_ff h9 hf
    refine lv_aload_n hx hb dX4_lostStep_42 rfl (lv_at hl 1 rfl) ?_
    obtain ⟨n11, h10, hf⟩ := hs_bi hf
    refine x_getN hx hb hts inX4_lostStep_X4 hown hK hB (by decide) rfl (k := 1) (by decide) rfl h10 (hts _ lkX4_lostStep_2) (fun _ h9 => h9) dX4_lostStep_43 ?_
    refine lv_iload_n hx hb dX4_lostStep_46 rfl (lv_at hl 2 rfl) ?_
    obtain ⟨v12, h13, hf⟩ := hs_bi hf
    refine x_iald hx hb hK hB h13 dX4_lostStep_47 ?_
    refine lv_aload_n hx hb dX4_lostStep_48 rfl (lv_at hl 1 rfl) ?_
    obtain ⟨v15, h14, hf⟩ := hs_bi hf
    refine x_getI hx hb hts inX4_lostStep_X4 hown hK hB (by decide) rfl (k := 2) (by decide) rfl h14 (hts _ lkX4_lostStep_0) (fun _ h9 => h9) dX4_lostStep_49 ?_
    refine lv_icmp_lt (tgt := 61) hx hb dX4_lostStep_52 (by decide) (fun h16 => ?_) (fun h16 => ?_)
    · have hf := hs_tt h16 hf
      refine lv_iinc (v := (x1 + 1)) (lv' := [(1, .int (x1 + 1)), (2, .int y0), (0, .ref (ad x0))]) hx hb dX4_lostStep_61 hl (k := 2) rfl rfl (by decide) rfl (fun ls hl => ?_)
      refine lv_goto (tgt := 2) hx hb dX4_lostStep_64 (by decide) ?_
      exact hk2 σ x0 (x1 + 1) _ _ _ hf hB hS (lv_sub hl [2, 0] rfl)
    · have hf := hs_ff h16 hf
      refine lv_sipush (v := 200) hx hb dX4_lostStep_55 (by decide) ?_
      refine lv_iload_n hx hb dX4_lostStep_58 rfl (lv_at hl 2 rfl) ?_
      refine lv_iadd hx hb dX4_lostStep_59 ?_
      obtain ⟨rfl, rfl⟩ := hs_ri hf
      exact hs_iret hx hb hr hlk hB hS dX4_lostStep_60
set_option maxRecDepth 100000 in
set_option maxHeartbeats 4000000 in
theorem wX4_lostStep_32 (fu : Nat) (C : hs_Cx p s m args meth c X A yX4_lostStep cX4_lostStep 3 (some .int) wsX4_lostStep) (hem : ad hs_em = X.2.2.1.2.2.2) (k2 : hs_T → Nat → Int32 → Option (Int32 × hs_T)) (hk2 : ∀ (σ : hs_T) (x0 : Nat) (x1 : Int32) (H : Heap) (locs : List Loc) (ls : Array Slot), k2 σ x0 x1 = some (r, τ) → hs_H X.1 X.2.1 ad A σ H → va_S A s.heap H locs → lv_has ls 3 [(0, .ref (ad x0)), (1, .int x1)] → W p l e rmX4_lostStep s m args below meth c H locs 0 0 (MQ below (hs_Q0 hs_tvi X ad A r τ) args s 0 0 A) (F0 m 2 ls [])) {H : Heap} {locs : List Loc} {ls : Array Slot} (σ : hs_T) (x0 : Nat) (x1 : Int32) (hf : fX4_lostStep_32 fu k2 σ x0 x1 = some (r, τ)) (hB : hs_H X.1 X.2.1 ad A σ H) (hS : va_S A s.heap H locs) (hl : lv_has ls 3 [(0, .ref (ad x0)), (1, .int x1)]) : W p l e rmX4_lostStep s m args below meth c H locs 0 0 (MQ below (hs_Q0 hs_tvi X ad A r τ) args s 0 0 A) (F0 m 32 ls []) := by
  obtain ⟨hx, hb, hml, hr, hts, hown, hlk, hnm, hV, hA0, hA⟩ := id C
  have hown : s.vm.findClass RX4 = some m.cls := hown
  have hK := hV.1
  have hNw := hV.2.1
  unfold fX4_lostStep_32 at hf
  refine lv_iconst (v := 1) hx hb dX4_lostStep_32 (by decide) ?_
  refine lv_goto (tgt := 37) hx hb dX4_lostStep_33 (by decide) ?_
  exact wX4_lostStep_37 fu C hem k2 hk2 σ x0 x1 1 hf hB hS hl
set_option maxRecDepth 100000 in
set_option maxHeartbeats 4000000 in
theorem wX4_lostStep_2b (fu : Nat) (C : hs_Cx p s m args meth c X A yX4_lostStep cX4_lostStep 3 (some .int) wsX4_lostStep) (hem : ad hs_em = X.2.2.1.2.2.2)  (k2 : hs_T → Nat → Int32 → Option (Int32 × hs_T)) (hk2 : ∀ (σ : hs_T) (x0 : Nat) (x1 : Int32) (H : Heap) (locs : List Loc) (ls : Array Slot), k2 σ x0 x1 = some (r, τ) → hs_H X.1 X.2.1 ad A σ H → va_S A s.heap H locs → lv_has ls 3 [(0, .ref (ad x0)), (1, .int x1)] → W p l e rmX4_lostStep s m args below meth c H locs 0 0 (MQ below (hs_Q0 hs_tvi X ad A r τ) args s 0 0 A) (F0 m 2 ls [])) {H : Heap} {locs : List Loc} {ls : Array Slot} (σ : hs_T) (x0 : Nat) (x1 : Int32) (hf : fX4_lostStep_2b fu  k2 σ x0 x1 = some (r, τ)) (hB : hs_H X.1 X.2.1 ad A σ H) (hS : va_S A s.heap H locs) (hl : lv_has ls 3 [(0, .ref (ad x0)), (1, .int x1)]) : W p l e rmX4_lostStep s m args below meth c H locs 0 0 (MQ below (hs_Q0 hs_tvi X ad A r τ) args s 0 0 A) (F0 m 2 ls []) := by
  obtain ⟨hx, hb, hml, hr, hts, hown, hlk, hnm, hV, hA0, hA⟩ := id C
  have hown : s.vm.findClass RX4 = some m.cls := hown
  have hK := hV.1
  have hNw := hV.2.1
  unfold fX4_lostStep_2b at hf
  refine lv_iload_n hx hb dX4_lostStep_2 rfl (lv_at hl 1 rfl) ?_
  refine lv_aload_n hx hb dX4_lostStep_3 rfl (lv_at hl 0 rfl) ?_
  obtain ⟨v2, h1, hf⟩ := hs_bi hf
  refine x_getI hx hb hts inX4_lostStep_X4 hown hK hB (by decide) rfl (k := 2) (by decide) rfl h1 (hts _ lkX4_lostStep_0) (fun _ h9 => h9) dX4_lostStep_4 ?_
  refine lv_icmp_ge (tgt := 67) hx hb dX4_lostStep_7 (by decide) (fun h3 => ?_) (fun h3 => ?_)
  · have hf := hs_tt h3 hf
    refine lv_iconst (v := (-1)) hx hb dX4_lostStep_67 (by decide) ?_
    obtain ⟨rfl, rfl⟩ := hs_ri hf
    exact hs_iret hx hb hr hlk hB hS dX4_lostStep_68
  · have hf := hs_ff h3 hf
    refine lv_aload_n hx hb dX4_lostStep_10 rfl (lv_at hl 0 rfl) ?_
    obtain ⟨n5, h4, hf⟩ := hs_bi hf
    refine x_getN hx hb hts inX4_lostStep_X4 hown hK hB (by decide) rfl (k := 0) (by decide) rfl h4 (hts _ lkX4_lostStep_1) (fun _ h9 => h9) dX4_lostStep_11 ?_
    refine lv_iload_n hx hb dX4_lostStep_14 rfl (lv_at hl 1 rfl) ?_
    obtain ⟨v6, h7, hf⟩ := hs_bi hf
    refine x_iald hx hb hK hB h7 dX4_lostStep_15 ?_
    refine lv_bipush (v := 106) hx hb dX4_lostStep_16 (by decide) ?_
    refine lv_icmp_eq (tgt := 32) hx hb dX4_lostStep_18 (by decide) (fun h8 => ?_) (fun h8 => ?_)
    · have hf := hs_tt h8 hf
      exact wX4_lostStep_32 fu C hem k2 hk2 σ x0 x1 hf hB hS hl
    · have hf := hs_ff h8 hf
      refine lv_aload_n hx hb dX4_lostStep_21 rfl (lv_at hl 0 rfl) ?_
      obtain ⟨n18, h17, hf⟩ := hs_bi hf
      refine x_getN hx hb hts inX4_lostStep_X4 hown hK hB (by decide) rfl (k := 0) (by decide) rfl h17 (hts _ lkX4_lostStep_1) (fun _ h9 => h9) dX4_lostStep_22 ?_
      refine lv_iload_n hx hb dX4_lostStep_25 rfl (lv_at hl 1 rfl) ?_
      obtain ⟨v19, h20, hf⟩ := hs_bi hf
      refine x_iald hx hb hK hB h20 dX4_lostStep_26 ?_
      refine lv_bipush (v := 103) hx hb dX4_lostStep_27 (by decide) ?_
      refine lv_icmp_ne (tgt := 36) hx hb dX4_lostStep_29 (by decide) (fun h21 => ?_) (fun h21 => ?_)
      · have hf := hs_ff h21 hf
        refine lv_iconst (v := 0) hx hb dX4_lostStep_36 (by decide) ?_
        exact wX4_lostStep_37 fu C hem k2 hk2 σ x0 x1 0 hf hB hS hl
      · have hf := hs_tt h21 hf
        exact wX4_lostStep_32 fu C hem k2 hk2 σ x0 x1 hf hB hS hl
set_option maxRecDepth 100000 in
set_option maxHeartbeats 4000000 in
theorem wX4_lostStep_2 (fu : Nat) (C : hs_Cx p s m args meth c X A yX4_lostStep cX4_lostStep 3 (some .int) wsX4_lostStep) (hem : ad hs_em = X.2.2.1.2.2.2)  {H : Heap} {locs : List Loc} {ls : Array Slot} (σ : hs_T) (x0 : Nat) (x1 : Int32) (hf : fX4_lostStep_2 fu  σ x0 x1 = some (r, τ)) (hB : hs_H X.1 X.2.1 ad A σ H) (hS : va_S A s.heap H locs) (hl : lv_has ls 3 [(0, .ref (ad x0)), (1, .int x1)]) : W p l e rmX4_lostStep s m args below meth c H locs 0 0 (MQ below (hs_Q0 hs_tvi X ad A r τ) args s 0 0 A) (F0 m 2 ls []) := by
  unfold fX4_lostStep_2 at hf
  exact hs_lp_i (P := fun a => ∀ (H : Heap) (locs : List Loc) (ls : Array Slot), hs_H X.1 X.2.1 ad A a.1 H → va_S A s.heap H locs → lv_has ls 3 [(0, .ref (ad a.2.1)), (1, .int a.2.2)] → W p l e rmX4_lostStep s m args below meth c H locs 0 0 (MQ below (hs_Q0 hs_tvi X ad A r τ) args s 0 0 A) (F0 m 2 ls [])) (fun k a hk hf H locs ls hB hS hl => wX4_lostStep_2b fu C hem  _ (fun σ x0 x1 H locs ls hf hB hS hl => hk (σ, x0, x1) hf H locs ls hB hS hl) a.1 a.2.1 a.2.2 hf hB hS hl) fu (σ, x0, x1) hf H locs ls hB hS hl
set_option maxRecDepth 100000 in
set_option maxHeartbeats 4000000 in
theorem wX4_lostStep_e (fu : Nat) (C : hs_Cx p s m args meth c X A yX4_lostStep cX4_lostStep 3 (some .int) wsX4_lostStep) (hem : ad hs_em = X.2.2.1.2.2.2) {H : Heap} {locs : List Loc} {ls : Array Slot} (σ : hs_T) (o : Nat) (hf : fX4_lostStep fu σ o = some (r, τ)) (hB : hs_H X.1 X.2.1 ad A σ H) (hS : va_S A s.heap H locs) (hl : lv_has ls 3 [(0, .ref (ad o))]) : W p l e rmX4_lostStep s m args below meth c H locs 0 0 (MQ below (hs_Q0 hs_tvi X ad A r τ) args s 0 0 A) (F0 m 0 ls []) := by
  obtain ⟨hx, hb, hml, hr, hts, hown, hlk, hnm, hV, hA0, hA⟩ := id C
  have hown : s.vm.findClass RX4 = some m.cls := hown
  have hK := hV.1
  have hNw := hV.2.1
  unfold fX4_lostStep at hf
  refine lv_iconst (v := 0) hx hb dX4_lostStep_0 (by decide) ?_
  refine lv_istore_n (lv' := [(1, .int 0), (0, .ref (ad o))]) hx hb dX4_lostStep_1 rfl hl (by decide) rfl (fun ls hl => ?_)
  exact wX4_lostStep_2 fu C hem σ o 0 hf hB hS (lv_sub hl [1, 0] rfl)
end SX4_lostStep
set_option maxRecDepth 100000 in
theorem ctX4_lostStep (l : Launch) (fu : Nat) (σ : hs_T) (o : Nat) : hs_C0 hs_tvi l yX4_lostStep wsX4_lostStep rmX4_lostStep (fun ad => [.ref (ad o)]) σ (fX4_lostStep fu σ o) := by
  intro X ad sz r τ hf
  refine hs_enter (cc := cX4_lostStep) (maxL := 3) (ret := (some .int)) (by decide) rfl (Nat.le_of_ble_eq_true rfl) ?_
  intro p e s m below meth c ls C hl hem hB hS hsz
  exact wX4_lostStep_e fu C hem σ o hf hB hS hl
/-! ServiceGame$Reader.read(LServiceGame$Tape;)I -/
abbrev rmX4_read : Room := { frames := 3, cells := 0, slots := 0, locals := 67 }
theorem inX4_read_X4 : ∀ w ∈ wsX40, w ∈ wsX4_read := fun _ h => List.mem_cons_of_mem _ (List.mem_append_left _ (List.mem_append_right _ h))
theorem inX4_read_X6 : ∀ w ∈ wsX60, w ∈ wsX4_read := fun _ h => List.mem_cons_of_mem _ (List.mem_append_right _ h)
theorem lkX4_read_0 : Cond.fieldLink RX4 18 "ServiceGame$Reader" "place" "I" ∈ wsX4_read := by decide +kernel
theorem lkX4_read_1 : Cond.fieldLink RX4 22 "ServiceGame$Reader" "size" "I" ∈ wsX4_read := by decide +kernel
theorem lkX4_read_2 : Cond.initialized RX6 ∈ wsX4_read := by decide +kernel
theorem lkX4_read_3 : Cond.instanceMethod yX6_at ∈ wsX4_read := by decide +kernel
theorem lkX4_read_4 : Cond.selects RX6 yX6_at yX6_at ∈ wsX4_read := by decide +kernel
def fX4_read_93 (fu : Nat)  (σ : hs_T) (x0 : Nat) (x1 : Nat) : Option (Int32 × hs_T) :=
 (hs_gI σ 6 x0 3).bind fun v7 =>
 (hs_gI σ 8 x1 1).bind fun v9 =>
 if v9 ≤ v7 then
 ((hs_ck σ 6 x0).bind fun _ =>
 hs_b2 (fX4_lostStep fu σ x0) fun v14 σ12 =>
 some (v14, σ12))
 else
 ((hs_gI σ 6 x0 3).bind fun v16 =>
 some (v16, σ))
def fX4_read_75 (fu : Nat) (k12 : hs_T → Nat → Nat → Int32 → Option (Int32 × hs_T)) (σ : hs_T) (x0 : Nat) (x1 : Nat) (y0 : Int32) : Option (Int32 × hs_T) :=
 if y0 = 0 then
 (k12 σ x0 x1 y0)
 else
 ((hs_gI σ 6 x0 3).bind fun v38 =>
 (hs_pI σ 6 x0 3 (v38 + 1)).bind fun σ40 =>
 k12 σ40 x0 x1 y0)
def fX4_read_74 (fu : Nat) (k12 : hs_T → Nat → Nat → Int32 → Option (Int32 × hs_T)) (σ : hs_T) (x0 : Nat) (x1 : Nat) : Option (Int32 × hs_T) :=
 fX4_read_75 fu k12 σ x0 x1 0
def fX4_read_12b (fu : Nat)  (k12 : hs_T → Nat → Nat → Int32 → Option (Int32 × hs_T)) (σ : hs_T) (x0 : Nat) (x1 : Nat) (x2 : Int32) : Option (Int32 × hs_T) :=
 if x2 = 0 then
 (fX4_read_93 fu σ x0 x1)
 else
 ((hs_gI σ 6 x0 2).bind fun v18 =>
 if 24 ≤ v18 then
 (fX4_read_93 fu σ x0 x1)
 else
 ((hs_ck σ 6 x0).bind fun _ =>
 hs_b2 (fX4_readStep fu σ x0 x1) fun v23 σ21 =>
 if v23 = 0 then
 ((hs_gI σ21 6 x0 3).bind fun v45 =>
 some (v45, σ21))
 else
 ((hs_gI σ21 6 x0 2).bind fun v26 =>
 (hs_pI σ21 6 x0 2 (v26 + 1)).bind fun σ28 =>
 (hs_gI σ28 6 x0 3).bind fun v30 =>
 (hs_ck σ28 8 x1).bind fun _ =>
 hs_b2 (fX6_at fu σ28 x1 v30) fun v34 σ32 =>
 if v34 = 59 then
 ((hs_gI σ32 6 x0 2).bind fun v42 =>
 if 24 ≤ v42 then
 (fX4_read_74 fu k12 σ32 x0 x1)
 else
 (fX4_read_75 fu k12 σ32 x0 x1 1))
 else
 (fX4_read_74 fu k12 σ32 x0 x1))))
def fX4_read_12 (fu : Nat)  (σ : hs_T) (x0 : Nat) (x1 : Nat) (x2 : Int32) : Option (Int32 × hs_T) :=
   hs_lp (fun (k : hs_T × Nat × Nat × Int32 → Option (Int32 × hs_T)) (a : hs_T × Nat × Nat × Int32) => fX4_read_12b fu  (fun σ x0 x1 x2 => k (σ, x0, x1, x2)) a.1 a.2.1 a.2.2.1 a.2.2.2) fu (σ, x0, x1, x2)
def fX4_read (fu : Nat) (σ : hs_T) (o : Nat) (a1 : Nat) : Option (Int32 × hs_T) :=
 (hs_pI σ 6 o 3 0).bind fun σ2 =>
 (hs_pI σ2 6 o 2 0).bind fun σ4 =>
 fX4_read_12 fu σ4 o a1 1
section SX4_read
variable {p : Program} {l : Launch} {e : Env} {s : State} {m : MethodId} {args : Array Value} {below : List Frame} {meth : Method} {c : Code} {X : hs_X} {ad : Nat → Nat} {A : Nat → Prop} {r : Int32} {τ : hs_T}
set_option maxRecDepth 100000 in
set_option maxHeartbeats 4000000 in
theorem wX4_read_93 (fu : Nat) (C : hs_Cx p s m args meth c X A yX4_read cX4_read 3 (some .int) wsX4_read) (hem : ad hs_em = X.2.2.1.2.2.2)  {H : Heap} {locs : List Loc} {ls : Array Slot} (σ : hs_T) (x0 : Nat) (x1 : Nat) (hf : fX4_read_93 fu  σ x0 x1 = some (r, τ)) (hB : hs_H X.1 X.2.1 ad A σ H) (hS : va_S A s.heap H locs) (hl : lv_has ls 3 [(0, .ref (ad x0)), (1, .ref (ad x1))]) : W p l e rmX4_read s m args below meth c H locs 0 0 (MQ below (hs_Q0 hs_tvi X ad A r τ) args s 0 0 A) (F0 m 93 ls []) := by
  obtain ⟨hx, hb, hml, hr, hts, hown, hlk, hnm, hV, hA0, hA⟩ := id C
  have hown : s.vm.findClass RX4 = some m.cls := hown
  have hK := hV.1
  have hNw := hV.2.1
  unfold fX4_read_93 at hf
  refine lv_aload_n hx hb dX4_read_93 rfl (lv_at hl 0 rfl) ?_
  obtain ⟨v7, h6, hf⟩ := hs_bi hf
  refine x_getI hx hb hts inX4_read_X4 hown hK hB (by decide) rfl (k := 3) (by decide) rfl h6 (hts _ lkX4_read_0) (fun _ h9 => h9) dX4_read_94 ?_
  refine lv_aload_n hx hb dX4_read_97 rfl (lv_at hl 1 rfl) ?_
  obtain ⟨v9, h8, hf⟩ := hs_bi hf
  refine x_getIN hx hb hts inX4_read_X6 hown hK hB (by decide) rfl (k := 1) (by decide) rfl h8 (hNw (.fieldLinkNest "ServiceGame$Reader" 35 "ServiceGame$Tape" "size" "I" "ServiceGame") (by decide +kernel)) (fun _ h9 => h9) dX4_read_98 ?_
  refine lv_icmp_ge (tgt := 111) hx hb dX4_read_101 (by decide) (fun h10 => ?_) (fun h10 => ?_)
  · have hf := hs_tt h10 hf
    refine lv_aload_n hx hb dX4_read_111 rfl (lv_at hl 0 rfl) ?_
    obtain ⟨_, h13, hf⟩ := hs_bi hf
    obtain ⟨v14, σ12, h11, hf⟩ := hs_b2i hf
    refine hs_call0 (va_runV (As := []) (rest := []) ⟨hx, hb, hml, hown, hts⟩ (ctX4_lostStep l fu σ x0 X ad H.size _ _ h11) (cwV 0 hts gX4_read_X4_lostStep rfl rfl rfl (by decide +kernel) ⟨Nat.le_of_ble_eq_true rfl, Nat.le_of_ble_eq_true rfl⟩) (hs_preV (hs_recv hK hB (hs_ck_i h13) (by decide) rfl) hV hB hS hA0 hA hem) rfl rfl hl.1 rfl (lv_room (Nat.le_of_ble_eq_true rfl)) dX4_read_112 ⟨Nat.le_of_ble_eq_true rfl, Nat.le_of_ble_eq_true rfl⟩) hB hS hA rfl (fun H locs hB hS => ?_)
    obtain ⟨rfl, rfl⟩ := hs_ri hf
    exact hs_iret hx hb hr hlk hB hS dX4_read_115
  · have hf := hs_ff h10 hf
    refine lv_aload_n hx hb dX4_read_104 rfl (lv_at hl 0 rfl) ?_
    obtain ⟨v16, h15, hf⟩ := hs_bi hf
    refine x_getI hx hb hts inX4_read_X4 hown hK hB (by decide) rfl (k := 3) (by decide) rfl h15 (hts _ lkX4_read_0) (fun _ h9 => h9) dX4_read_105 ?_
    refine lv_goto (tgt := 115) hx hb dX4_read_108 (by decide) ?_
    obtain ⟨rfl, rfl⟩ := hs_ri hf
    exact hs_iret hx hb hr hlk hB hS dX4_read_115
set_option maxRecDepth 100000 in
set_option maxHeartbeats 4000000 in
theorem wX4_read_75 (fu : Nat) (C : hs_Cx p s m args meth c X A yX4_read cX4_read 3 (some .int) wsX4_read) (hem : ad hs_em = X.2.2.1.2.2.2) (k12 : hs_T → Nat → Nat → Int32 → Option (Int32 × hs_T)) (hk12 : ∀ (σ : hs_T) (x0 : Nat) (x1 : Nat) (x2 : Int32) (H : Heap) (locs : List Loc) (ls : Array Slot), k12 σ x0 x1 x2 = some (r, τ) → hs_H X.1 X.2.1 ad A σ H → va_S A s.heap H locs → lv_has ls 3 [(0, .ref (ad x0)), (1, .ref (ad x1)), (2, .int x2)] → W p l e rmX4_read s m args below meth c H locs 0 0 (MQ below (hs_Q0 hs_tvi X ad A r τ) args s 0 0 A) (F0 m 12 ls [])) {H : Heap} {locs : List Loc} {ls : Array Slot} (σ : hs_T) (x0 : Nat) (x1 : Nat) (y0 : Int32) (hf : fX4_read_75 fu k12 σ x0 x1 y0 = some (r, τ)) (hB : hs_H X.1 X.2.1 ad A σ H) (hS : va_S A s.heap H locs) (hl : lv_has ls 3 [(0, .ref (ad x0)), (1, .ref (ad x1))]) : W p l e rmX4_read s m args below meth c H locs 0 0 (MQ below (hs_Q0 hs_tvi X ad A r τ) args s 0 0 A) (F0 m 75 ls [.int y0]) := by
  obtain ⟨hx, hb, hml, hr, hts, hown, hlk, hnm, hV, hA0, hA⟩ := id C
  have hown : s.vm.findClass RX4 = some m.cls := hown
  have hK := hV.1
  have hNw := hV.2.1
  unfold fX4_read_75 at hf
  refine lv_istore_n (lv' := [(2, .int y0), (0, .ref (ad x0)), (1, .ref (ad x1))]) hx hb dX4_read_75 rfl hl (by decide) rfl (fun ls hl => ?_)
  refine lv_iload_n hx hb dX4_read_76 rfl (lv_at hl 0 rfl) ?_
  refine lv_if_eq (tgt := 12) hx hb dX4_read_77 (by decide) (fun h36 => ?_) (fun h36 => ?_)
  · have hf := hs_tt h36 hf
    exact hk12 σ x0 x1 y0 _ _ _ hf hB hS (lv_sub hl [1, 2, 0] rfl)
  · have hf := hs_ff h36 hf
    refine lv_aload_n hx hb dX4_read_80 rfl (lv_at hl 1 rfl) ?_
    refine lv_dup hx hb dX4_read_81 rfl ?_
    obtain ⟨v38, h37, hf⟩ := hs_bi hf
    refine x_getI hx hb hts inX4_read_X4 hown hK hB (by decide) rfl (k := 3) (by decide) rfl h37 (hts _ lkX4_read_0) (fun _ h9 => h9) dX4_read_82 ?_
    refine lv_iconst (v := 1) hx hb dX4_read_85 (by decide) ?_
    refine lv_iadd hx hb dX4_read_86 ?_
    obtain ⟨σ40, h39, hf⟩ := hs_bi hf
    refine x_putI hx hb hts inX4_read_X4 tyX4_ok nmX4 hown hK hB hS (by decide) rfl (k := 3) (by decide) rfl h39 (hts _ lkX4_read_0) (fun _ h9 => h9) rfl (by decide +kernel) dX4_read_87 (fun H locs hB hS => ?_)
    refine lv_goto (tgt := 12) hx hb dX4_read_90 (by decide) ?_
    exact hk12 σ40 x0 x1 y0 _ _ _ hf hB hS (lv_sub hl [1, 2, 0] rfl)
set_option maxRecDepth 100000 in
set_option maxHeartbeats 4000000 in
theorem wX4_read_74 (fu : Nat) (C : hs_Cx p s m args meth c X A yX4_read cX4_read 3 (some .int) wsX4_read) (hem : ad hs_em = X.2.2.1.2.2.2) (k12 : hs_T → Nat → Nat → Int32 → Option (Int32 × hs_T)) (hk12 : ∀ (σ : hs_T) (x0 : Nat) (x1 : Nat) (x2 : Int32) (H : Heap) (locs : List Loc) (ls : Array Slot), k12 σ x0 x1 x2 = some (r, τ) → hs_H X.1 X.2.1 ad A σ H → va_S A s.heap H locs → lv_has ls 3 [(0, .ref (ad x0)), (1, .ref (ad x1)), (2, .int x2)] → W p l e rmX4_read s m args below meth c H locs 0 0 (MQ below (hs_Q0 hs_tvi X ad A r τ) args s 0 0 A) (F0 m 12 ls [])) {H : Heap} {locs : List Loc} {ls : Array Slot} (σ : hs_T) (x0 : Nat) (x1 : Nat) (hf : fX4_read_74 fu k12 σ x0 x1 = some (r, τ)) (hB : hs_H X.1 X.2.1 ad A σ H) (hS : va_S A s.heap H locs) (hl : lv_has ls 3 [(0, .ref (ad x0)), (1, .ref (ad x1))]) : W p l e rmX4_read s m args below meth c H locs 0 0 (MQ below (hs_Q0 hs_tvi X ad A r τ) args s 0 0 A) (F0 m 74 ls []) := by
  obtain ⟨hx, hb, hml, hr, hts, hown, hlk, hnm, hV, hA0, hA⟩ := id C
  have hown : s.vm.findClass RX4 = some m.cls := hown
  have hK := hV.1
  have hNw := hV.2.1
  unfold fX4_read_74 at hf
  refine lv_iconst (v := 0) hx hb dX4_read_74 (by decide) ?_
  exact wX4_read_75 fu C hem k12 hk12 σ x0 x1 0 hf hB hS hl
set_option maxRecDepth 100000 in
set_option maxHeartbeats 4000000 in
theorem wX4_read_12b (fu : Nat) (C : hs_Cx p s m args meth c X A yX4_read cX4_read 3 (some .int) wsX4_read) (hem : ad hs_em = X.2.2.1.2.2.2)  (k12 : hs_T → Nat → Nat → Int32 → Option (Int32 × hs_T)) (hk12 : ∀ (σ : hs_T) (x0 : Nat) (x1 : Nat) (x2 : Int32) (H : Heap) (locs : List Loc) (ls : Array Slot), k12 σ x0 x1 x2 = some (r, τ) → hs_H X.1 X.2.1 ad A σ H → va_S A s.heap H locs → lv_has ls 3 [(0, .ref (ad x0)), (1, .ref (ad x1)), (2, .int x2)] → W p l e rmX4_read s m args below meth c H locs 0 0 (MQ below (hs_Q0 hs_tvi X ad A r τ) args s 0 0 A) (F0 m 12 ls [])) {H : Heap} {locs : List Loc} {ls : Array Slot} (σ : hs_T) (x0 : Nat) (x1 : Nat) (x2 : Int32) (hf : fX4_read_12b fu  k12 σ x0 x1 x2 = some (r, τ)) (hB : hs_H X.1 X.2.1 ad A σ H) (hS : va_S A s.heap H locs) (hl : lv_has ls 3 [(0, .ref (ad x0)), (1, .ref (ad x1)), (2, .int x2)]) : W p l e rmX4_read s m args below meth c H locs 0 0 (MQ below (hs_Q0 hs_tvi X ad A r τ) args s 0 0 A) (F0 m 12 ls []) := by
  obtain ⟨hx, hb, hml, hr, hts, hown, hlk, hnm, hV, hA0, hA⟩ := id C
  have hown : s.vm.findClass RX4 = some m.cls := hown
  have hK := hV.1
  have hNw := hV.2.1
  unfold fX4_read_12b at hf
  refine lv_iload_n hx hb dX4_read_12 rfl (lv_at hl 2 rfl) ?_
  refine lv_if_eq (tgt := 93) hx hb dX4_read_13 (by decide) (fun h5 => ?_) (fun h5 => ?_)
  · have hf := hs_tt h5 hf
    exact wX4_read_93 fu C hem σ x0 x1 hf hB hS (lv_sub hl [0, 1] rfl)
  · have hf := hs_ff h5 hf
    refine lv_aload_n hx hb dX4_read_16 rfl (lv_at hl 0 rfl) ?_
    obtain ⟨v18, h17, hf⟩ := hs_bi hf
    refine x_getI hx hb hts inX4_read_X4 hown hK hB (by decide) rfl (k := 2) (by decide) rfl h17 (hts _ lkX4_read_1) (fun _ h9 => h9) dX4_read_17 ?_
    refine lv_bipush (v := 24) hx hb dX4_read_20 (by decide) ?_
    refine lv_icmp_ge (tgt := 93) hx hb dX4_read_22 (by decide) (fun h19 => ?_) (fun h19 => ?_)
    · have hf := hs_tt h19 hf
      exact wX4_read_93 fu C hem σ x0 x1 hf hB hS (lv_sub hl [0, 1] rfl)
    · have hf := hs_ff h19 hf
      refine lv_aload_n hx hb dX4_read_25 rfl (lv_at hl 0 rfl) ?_
      refine lv_aload_n hx hb dX4_read_26 rfl (lv_at hl 1 rfl) ?_
      obtain ⟨_, h22, hf⟩ := hs_bi hf
      obtain ⟨v23, σ21, h20, hf⟩ := hs_b2i hf
      refine hs_call0 (va_runV (As := [.ref (ad x1)]) (rest := []) ⟨hx, hb, hml, hown, hts⟩ (ctX4_readStep l fu σ x0 x1 X ad H.size _ _ h20) (cwV 1 hts gX4_read_X4_readStep rfl rfl rfl (by decide +kernel) ⟨Nat.le_of_ble_eq_true rfl, Nat.le_of_ble_eq_true rfl⟩) (hs_preV (hs_recv hK hB (hs_ck_i h22) (by decide) rfl) hV hB hS hA0 hA hem) rfl rfl hl.1 rfl (lv_room (Nat.le_of_ble_eq_true rfl)) dX4_read_27 ⟨Nat.le_of_ble_eq_true rfl, Nat.le_of_ble_eq_true rfl⟩) hB hS hA rfl (fun H locs hB hS => ?_)
      refine lv_if_ne (tgt := 38) hx hb dX4_read_30 (by decide) (fun h24 => ?_) (fun h24 => ?_)
      · have hf := hs_ff h24 hf
        refine lv_aload_n hx hb dX4_read_38 rfl (lv_at hl 0 rfl) ?_
        refine lv_dup hx hb dX4_read_39 rfl ?_
        obtain ⟨v26, h25, hf⟩ := hs_bi hf
        refine x_getI hx hb hts inX4_read_X4 hown hK hB (by decide) rfl (k := 2) (by decide) rfl h25 (hts _ lkX4_read_1) (fun _ h9 => h9) dX4_read_40 ?_
        refine lv_iconst (v := 1) hx hb dX4_read_43 (by decide) ?_
        refine lv_iadd hx hb dX4_read_44 ?_
        obtain ⟨σ28, h27, hf⟩ := hs_bi hf
        refine x_putI hx hb hts inX4_read_X4 tyX4_ok nmX4 hown hK hB hS (by decide) rfl (k := 2) (by decide) rfl h27 (hts _ lkX4_read_1) (fun _ h9 => h9) rfl (by decide +kernel) dX4_read_45 (fun H locs hB hS => ?_)
        refine lv_aload_n hx hb dX4_read_48 rfl (lv_at hl 1 rfl) ?_
        refine lv_aload_n hx hb dX4_read_49 rfl (lv_at hl 0 rfl) ?_
        obtain ⟨v30, h29, hf⟩ := hs_bi hf
        refine x_getI hx hb hts inX4_read_X4 hown hK hB (by decide) rfl (k := 3) (by decide) rfl h29 (hts _ lkX4_read_0) (fun _ h9 => h9) dX4_read_50 ?_
        obtain ⟨_, h33, hf⟩ := hs_bi hf
        obtain ⟨v34, σ32, h31, hf⟩ := hs_b2i hf
        refine hs_call0 (va_runVN (As := [.int v30]) (rest := []) ⟨hx, hb, hml, hown, hts⟩ (ctX6_at l fu σ28 x1 v30 X ad H.size _ _ h31) ⟨va_cnB 1 hts gX4_read_X6_at_n29 rfl rfl rfl (hNw (.methodLinkNest "ServiceGame$Reader" 29 yX6_at "ServiceGame") (by decide +kernel)) (hts _ lkX4_read_2) (by decide +kernel) ⟨Nat.le_of_ble_eq_true rfl, Nat.le_of_ble_eq_true rfl⟩, (hts _ lkX4_read_3), (hts _ lkX4_read_4)⟩ (hs_preV (hs_recv hK hB (hs_ck_i h33) (by decide) rfl) hV hB hS hA0 hA hem) rfl rfl hl.1 rfl (lv_room (Nat.le_of_ble_eq_true rfl)) dX4_read_53 ⟨Nat.le_of_ble_eq_true rfl, Nat.le_of_ble_eq_true rfl⟩) hB hS hA rfl (fun H locs hB hS => ?_)
        refine lv_bipush (v := 59) hx hb dX4_read_56 (by decide) ?_
        refine lv_icmp_ne (tgt := 74) hx hb dX4_read_58 (by decide) (fun h35 => ?_) (fun h35 => ?_)
        · have hf := hs_ff h35 hf
          exact wX4_read_74 fu C hem k12 hk12 σ32 x0 x1 hf hB hS (lv_sub hl [0, 1] rfl)
        · have hf := hs_tt h35 hf
          refine lv_aload_n hx hb dX4_read_61 rfl (lv_at hl 0 rfl) ?_
          obtain ⟨v42, h41, hf⟩ := hs_bi hf
          refine x_getI hx hb hts inX4_read_X4 hown hK hB (by decide) rfl (k := 2) (by decide) rfl h41 (hts _ lkX4_read_1) (fun _ h9 => h9) dX4_read_62 ?_
          refine lv_bipush (v := 24) hx hb dX4_read_65 (by decide) ?_
          refine lv_icmp_ge (tgt := 74) hx hb dX4_read_67 (by decide) (fun h43 => ?_) (fun h43 => ?_)
          · have hf := hs_tt h43 hf
            exact wX4_read_74 fu C hem k12 hk12 σ32 x0 x1 hf hB hS (lv_sub hl [0, 1] rfl)
          · have hf := hs_ff h43 hf
            refine lv_iconst (v := 1) hx hb dX4_read_70 (by decide) ?_
            refine lv_goto (tgt := 75) hx hb dX4_read_71 (by decide) ?_
            exact wX4_read_75 fu C hem k12 hk12 σ32 x0 x1 1 hf hB hS (lv_sub hl [0, 1] rfl)
      · have hf := hs_tt h24 hf
        refine lv_aload_n hx hb dX4_read_33 rfl (lv_at hl 0 rfl) ?_
        obtain ⟨v45, h44, hf⟩ := hs_bi hf
        refine x_getI hx hb hts inX4_read_X4 hown hK hB (by decide) rfl (k := 3) (by decide) rfl h44 (hts _ lkX4_read_0) (fun _ h9 => h9) dX4_read_34 ?_
        obtain ⟨rfl, rfl⟩ := hs_ri hf
        exact hs_iret hx hb hr hlk hB hS dX4_read_37
set_option maxRecDepth 100000 in
set_option maxHeartbeats 4000000 in
theorem wX4_read_12 (fu : Nat) (C : hs_Cx p s m args meth c X A yX4_read cX4_read 3 (some .int) wsX4_read) (hem : ad hs_em = X.2.2.1.2.2.2)  {H : Heap} {locs : List Loc} {ls : Array Slot} (σ : hs_T) (x0 : Nat) (x1 : Nat) (x2 : Int32) (hf : fX4_read_12 fu  σ x0 x1 x2 = some (r, τ)) (hB : hs_H X.1 X.2.1 ad A σ H) (hS : va_S A s.heap H locs) (hl : lv_has ls 3 [(0, .ref (ad x0)), (1, .ref (ad x1)), (2, .int x2)]) : W p l e rmX4_read s m args below meth c H locs 0 0 (MQ below (hs_Q0 hs_tvi X ad A r τ) args s 0 0 A) (F0 m 12 ls []) := by
  unfold fX4_read_12 at hf
  exact hs_lp_i (P := fun a => ∀ (H : Heap) (locs : List Loc) (ls : Array Slot), hs_H X.1 X.2.1 ad A a.1 H → va_S A s.heap H locs → lv_has ls 3 [(0, .ref (ad a.2.1)), (1, .ref (ad a.2.2.1)), (2, .int a.2.2.2)] → W p l e rmX4_read s m args below meth c H locs 0 0 (MQ below (hs_Q0 hs_tvi X ad A r τ) args s 0 0 A) (F0 m 12 ls [])) (fun k a hk hf H locs ls hB hS hl => wX4_read_12b fu C hem  _ (fun σ x0 x1 x2 H locs ls hf hB hS hl => hk (σ, x0, x1, x2) hf H locs ls hB hS hl) a.1 a.2.1 a.2.2.1 a.2.2.2 hf hB hS hl) fu (σ, x0, x1, x2) hf H locs ls hB hS hl
set_option maxRecDepth 100000 in
set_option maxHeartbeats 4000000 in
theorem wX4_read_e (fu : Nat) (C : hs_Cx p s m args meth c X A yX4_read cX4_read 3 (some .int) wsX4_read) (hem : ad hs_em = X.2.2.1.2.2.2) {H : Heap} {locs : List Loc} {ls : Array Slot} (σ : hs_T) (o : Nat) (a1 : Nat) (hf : fX4_read fu σ o a1 = some (r, τ)) (hB : hs_H X.1 X.2.1 ad A σ H) (hS : va_S A s.heap H locs) (hl : lv_has ls 3 [(0, .ref (ad o)), (1, .ref (ad a1))]) : W p l e rmX4_read s m args below meth c H locs 0 0 (MQ below (hs_Q0 hs_tvi X ad A r τ) args s 0 0 A) (F0 m 0 ls []) := by
  obtain ⟨hx, hb, hml, hr, hts, hown, hlk, hnm, hV, hA0, hA⟩ := id C
  have hown : s.vm.findClass RX4 = some m.cls := hown
  have hK := hV.1
  have hNw := hV.2.1
  unfold fX4_read at hf
  refine lv_aload_n hx hb dX4_read_0 rfl (lv_at hl 0 rfl) ?_
  refine lv_iconst (v := 0) hx hb dX4_read_1 (by decide) ?_
  obtain ⟨σ2, h1, hf⟩ := hs_bi hf
  refine x_putI hx hb hts inX4_read_X4 tyX4_ok nmX4 hown hK hB hS (by decide) rfl (k := 3) (by decide) rfl h1 (hts _ lkX4_read_0) (fun _ h9 => h9) rfl (by decide +kernel) dX4_read_2 (fun H locs hB hS => ?_)
  refine lv_aload_n hx hb dX4_read_5 rfl (lv_at hl 0 rfl) ?_
  refine lv_iconst (v := 0) hx hb dX4_read_6 (by decide) ?_
  obtain ⟨σ4, h3, hf⟩ := hs_bi hf
  refine x_putI hx hb hts inX4_read_X4 tyX4_ok nmX4 hown hK hB hS (by decide) rfl (k := 2) (by decide) rfl h3 (hts _ lkX4_read_1) (fun _ h9 => h9) rfl (by decide +kernel) dX4_read_7 (fun H locs hB hS => ?_)
  refine lv_iconst (v := 1) hx hb dX4_read_10 (by decide) ?_
  refine lv_istore_n (lv' := [(2, .int 1), (0, .ref (ad o)), (1, .ref (ad a1))]) hx hb dX4_read_11 rfl hl (by decide) rfl (fun ls hl => ?_)
  exact wX4_read_12 fu C hem σ4 o a1 1 hf hB hS (lv_sub hl [1, 2, 0] rfl)
end SX4_read
set_option maxRecDepth 100000 in
theorem ctX4_read (l : Launch) (fu : Nat) (σ : hs_T) (o : Nat) (a1 : Nat) : hs_C0 hs_tvi l yX4_read wsX4_read rmX4_read (fun ad => [.ref (ad o), .ref (ad a1)]) σ (fX4_read fu σ o a1) := by
  intro X ad sz r τ hf
  refine hs_enter (cc := cX4_read) (maxL := 3) (ret := (some .int)) (by decide) rfl (Nat.le_of_ble_eq_true rfl) ?_
  intro p e s m below meth c ls C hl hem hB hS hsz
  exact wX4_read_e fu C hem σ o a1 hf hB hS hl
