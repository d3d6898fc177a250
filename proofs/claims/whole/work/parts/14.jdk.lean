/-! java/util/ArrayList.size()I -/
abbrev rmJx4a65c_size_8abf5 : Room := { frames := 0, cells := 0, slots := 0, locals := 0 }
theorem inJx4a65c_size_8abf5_Jx4a65c : ∀ w ∈ wsJx4a65c0, w ∈ wsJx4a65c_size_8abf5 := fun _ h => List.mem_cons_of_mem _ (List.mem_append_right _ h)
theorem lkJx4a65c_size_8abf5_0 : Cond.fieldLink RJx4a65c 48 "java/util/ArrayList" "size" "I" ∈ wsJx4a65c_size_8abf5 := by decide +kernel
def fJx4a65c_size_8abf5 (fu : Nat) (σ : hs_T) (o : Nat) : Option (Int32 × hs_T) :=
 (hs_gI σ 1 o 2).bind fun v2 =>
 some (v2, σ)
section SJx4a65c_size_8abf5
variable {p : Program} {l : Launch} {e : Env} {s : State} {m : MethodId} {args : Array Value} {below : List Frame} {meth : Method} {c : Code} {X : hs_X} {ad : Nat → Nat} {A : Nat → Prop} {r : Int32} {τ : hs_T}
set_option maxRecDepth 100000 in
set_option maxHeartbeats 4000000 in
theorem wJx4a65c_size_8abf5_e (fu : Nat) (C : hs_Cx p s m args meth c X A yJx4a65c_size_8abf5 cJx4a65c_size_8abf5 1 (some .int) wsJx4a65c_size_8abf5) (hem : ad hs_em = X.2.2.1.2.2.2) {H : Heap} {locs : List Loc} {ls : Array Slot} (σ : hs_T) (o : Nat) (hf : fJx4a65c_size_8abf5 fu σ o = some (r, τ)) (hB : hs_H X.1 X.2.1 ad A σ H) (hS : va_S A s.heap H locs) (hl : lv_has ls 1 [(0, .ref (ad o))]) : W p l e rmJx4a65c_size_8abf5 s m args below meth c H locs 0 0 (MQ below (hs_Q0 hs_tvi X ad A r τ) args s 0 0 A) (F0 m 0 ls []) := by
  obtain ⟨hx, hb, hml, hr, hts, hown, hlk, hnm, hV, hA0, hA⟩ := id C
  have hown : s.vm.findClass RJx4a65c = some m.cls := hown
  have hK := hV.1
  have hNw := hV.2.1
  unfold fJx4a65c_size_8abf5 at hf
  refine lv_aload_n hx hb dJx4a65c_size_8abf5_0 rfl (lv_at hl 0 rfl) ?_
  obtain ⟨v2, h1, hf⟩ := hs_bi hf
  refine x_getI hx hb hts inJx4a65c_size_8abf5_Jx4a65c hown hK hB (by decide) rfl (k := 2) (by decide) rfl h1 (hts _ lkJx4a65c_size_8abf5_0) (fun _ h9 => h9) dJx4a65c_size_8abf5_1 ?_
  obtain ⟨rfl, rfl⟩ := hs_ri hf
  exact hs_iret hx hb hr hlk hB hS dJx4a65c_size_8abf5_4
end SJx4a65c_size_8abf5
set_option maxRecDepth 100000 in
theorem ctJx4a65c_size_8abf5 (l : Launch) (fu : Nat) (σ : hs_T) (o : Nat) : hs_C0 hs_tvi l yJx4a65c_size_8abf5 wsJx4a65c_size_8abf5 rmJx4a65c_size_8abf5 (fun ad => [.ref (ad o)]) σ (fJx4a65c_size_8abf5 fu σ o) := by
  intro X ad sz r τ hf
  refine hs_enter (cc := cJx4a65c_size_8abf5) (maxL := 1) (ret := (some .int)) (by decide) rfl (Nat.le_of_ble_eq_true rfl) ?_
  intro p e s m below meth c ls C hl hem hB hS hsz
  exact wJx4a65c_size_8abf5_e fu C hem σ o hf hB hS hl
/-! java/util/ArrayList.elementData(I)Ljava/lang/Object; -/
abbrev rmJx4a65c_elementData_915e3 : Room := { frames := 0, cells := 0, slots := 0, locals := 0 }
theorem inJx4a65c_elementData_915e3_Jx4a65c : ∀ w ∈ wsJx4a65c0, w ∈ wsJx4a65c_elementData_915e3 := fun _ h => List.mem_cons_of_mem _ (List.mem_append_right _ h)
theorem lkJx4a65c_elementData_915e3_0 : Cond.fieldLink RJx4a65c 9 "java/util/ArrayList" "elementData" "[Ljava/lang/Object;" ∈ wsJx4a65c_elementData_915e3 := by decide +kernel
def fJx4a65c_elementData_915e3 (fu : Nat) (σ : hs_T) (o : Nat) (a1 : Int32) : Option (Option Nat × hs_T) :=
 (hs_gN σ 1 o 1).bind fun n2 =>
 (hs_la σ n2 a1).bind fun r3 => hs_mt r3 none (fun n5 =>
 some ((some n5), σ))
section SJx4a65c_elementData_915e3
variable {p : Program} {l : Launch} {e : Env} {s : State} {m : MethodId} {args : Array Value} {below : List Frame} {meth : Method} {c : Code} {X : hs_X} {ad : Nat → Nat} {A : Nat → Prop} {r : Option Nat} {τ : hs_T}
set_option maxRecDepth 100000 in
set_option maxHeartbeats 4000000 in
theorem wJx4a65c_elementData_915e3_e (fu : Nat) (C : hs_Cx p s m args meth c X A yJx4a65c_elementData_915e3 cJx4a65c_elementData_915e3 2 (some (.object "java/lang/Object")) wsJx4a65c_elementData_915e3) (hem : ad hs_em = X.2.2.1.2.2.2) {H : Heap} {locs : List Loc} {ls : Array Slot} (σ : hs_T) (o : Nat) (a1 : Int32) (hf : fJx4a65c_elementData_915e3 fu σ o a1 = some (r, τ)) (hB : hs_H X.1 X.2.1 ad A σ H) (hS : va_S A s.heap H locs) (hl : lv_has ls 2 [(0, .ref (ad o)), (1, .int a1)]) : W p l e rmJx4a65c_elementData_915e3 s m args below meth c H locs 0 0 (MQ below (hs_Q0 hs_tvr X ad A r τ) args s 0 0 A) (F0 m 0 ls []) := by
  obtain ⟨hx, hb, hml, hr, hts, hown, hlk, hnm, hV, hA0, hA⟩ := id C
  have hown : s.vm.findClass RJx4a65c = some m.cls := hown
  have hK := hV.1
  have hNw := hV.2.1
  unfold fJx4a65c_elementData_915e3 at hf
  refine lv_aload_n hx hb dJx4a65c_elementData_915e3_0 rfl (lv_at hl 0 rfl) ?_
  obtain ⟨n2, h1, hf⟩ := hs_bi hf
  refine x_getN hx hb hts inJx4a65c_elementData_915e3_Jx4a65c hown hK hB (by decide) rfl (k := 1) (by decide) rfl h1 (hts _ lkJx4a65c_elementData_915e3_0) (fun _ h9 => h9) dJx4a65c_elementData_915e3_1 ?_
  refine lv_iload_n hx hb dJx4a65c_elementData_915e3_4 rfl (lv_at hl 1 rfl) ?_
  obtain ⟨r3, h4, hf⟩ := hs_bi hf
  obtain ⟨n5, hf, rfl⟩ := hs_mx hf
  refine x_aald hx hb hK hB h4 dJx4a65c_elementData_915e3_5 ?_
  refine W.eq (g2 := F0 m 6 ls [.ref (ad n5)]) rfl ?_
  obtain ⟨rfl, rfl⟩ := hs_ri hf
  exact hs_aret hx hb hr hlk (some n5) rfl hB hS dJx4a65c_elementData_915e3_6
end SJx4a65c_elementData_915e3
set_option maxRecDepth 100000 in
theorem ctJx4a65c_elementData_915e3 (l : Launch) (fu : Nat) (σ : hs_T) (o : Nat) (a1 : Int32) : hs_C0 hs_tvr l yJx4a65c_elementData_915e3 wsJx4a65c_elementData_915e3 rmJx4a65c_elementData_915e3 (fun ad => [.ref (ad o), .int a1]) σ (fJx4a65c_elementData_915e3 fu σ o a1) := by
  intro X ad sz r τ hf
  refine hs_enter (cc := cJx4a65c_elementData_915e3) (maxL := 2) (ret := (some (.object "java/lang/Object"))) (by decide) rfl (Nat.le_of_ble_eq_true rfl) ?_
  intro p e s m below meth c ls C hl hem hB hS hsz
  exact wJx4a65c_elementData_915e3_e fu C hem σ o a1 hf hB hS hl
/-! jdk/internal/util/Preconditions.checkIndex(IILjava/util/function/BiFunction;)I -/
abbrev rmJ3_checkIndex_8e157 : Room := { frames := 0, cells := 0, slots := 0, locals := 0 }
def fJ3_checkIndex_8e157_9 (fu : Nat)  (σ : hs_T) (x0 : Int32) (x1 : Int32) : Option (Int32 × hs_T) :=
 none
def fJ3_checkIndex_8e157 (fu : Nat) (σ : hs_T) (a1 : Int32) (a2 : Int32) : Option (Int32 × hs_T) :=
 if a1 < 0 then
 (fJ3_checkIndex_8e157_9 fu σ a1 a2)
 else
 (if a1 < a2 then
 (some (a1, σ))
 else
 (fJ3_checkIndex_8e157_9 fu σ a1 a2))
section SJ3_checkIndex_8e157
variable {p : Program} {l : Launch} {e : Env} {s : State} {m : MethodId} {args : Array Value} {below : List Frame} {meth : Method} {c : Code} {X : hs_X} {ad : Nat → Nat} {A : Nat → Prop} {r : Int32} {τ : hs_T}
set_option maxRecDepth 100000 in
set_option maxHeartbeats 4000000 in
theorem wJ3_checkIndex_8e157_9 (fu : Nat) (C : hs_Cx p s m args meth c X A yJ3_checkIndex_8e157 cJ3_checkIndex_8e157 3 (some .int) wsJ3_checkIndex_8e157) (hem : ad hs_em = X.2.2.1.2.2.2)  {H : Heap} {locs : List Loc} {ls : Array Slot} (σ : hs_T) (x0 : Int32) (x1 : Int32) (hf : fJ3_checkIndex_8e157_9 fu  σ x0 x1 = some (r, τ)) (hB : hs_H X.1 X.2.1 ad A σ H) (hS : va_S A s.heap H locs) (hl : lv_has ls 3 [(0, .int x0), (1, .int x1), (2, .null)]) : W p l e rmJ3_checkIndex_8e157 s m args below meth c H locs 0 0 (MQ below (hs_Q0 hs_tvi X ad A r τ) args s 0 0 A) (F0 m 9 ls []) := by
  obtain ⟨hx, hb, hml, hr, hts, hown, hlk, hnm, hV, hA0, hA⟩ := id C
  have hown : s.vm.findClass RJ3 = some m.cls := hown
  have hK := hV.1
  have hNw := hV.2.1
  unfold fJ3_checkIndex_8e157_9 at hf
  refine lv_aload_nN hx hb dJ3_checkIndex_8e157_9 rfl (lv_at hl 2 rfl) ?_
  refine lv_iload_n hx hb dJ3_checkIndex_8e157_10 rfl (lv_at hl 0 rfl) ?_
  refine lv_iload_n hx hb dJ3_checkIndex_8e157_11 rfl (lv_at hl 1 rfl) ?_
  cases hf
set_option maxRecDepth 100000 in
set_option maxHeartbeats 4000000 in
theorem wJ3_checkIndex_8e157_e (fu : Nat) (C : hs_Cx p s m args meth c X A yJ3_checkIndex_8e157 cJ3_checkIndex_8e157 3 (some .int) wsJ3_checkIndex_8e157) (hem : ad hs_em = X.2.2.1.2.2.2) {H : Heap} {locs : List Loc} {ls : Array Slot} (σ : hs_T) (a1 : Int32) (a2 : Int32) (hf : fJ3_checkIndex_8e157 fu σ a1 a2 = some (r, τ)) (hB : hs_H X.1 X.2.1 ad A σ H) (hS : va_S A s.heap H locs) (hl : lv_has ls 3 [(0, .int a1), (1, .int a2), (2, .null)]) : W p l e rmJ3_checkIndex_8e157 s m args below meth c H locs 0 0 (MQ below (hs_Q0 hs_tvi X ad A r τ) args s 0 0 A) (F0 m 0 ls []) := by
  obtain ⟨hx, hb, hml, hr, hts, hown, hlk, hnm, hV, hA0, hA⟩ := id C
  have hown : s.vm.findClass RJ3 = some m.cls := hown
  have hK := hV.1
  have hNw := hV.2.1
  unfold fJ3_checkIndex_8e157 at hf
  refine lv_iload_n hx hb dJ3_checkIndex_8e157_0 rfl (lv_at hl 0 rfl) ?_
  refine lv_if_lt (tgt := 9) hx hb dJ3_checkIndex_8e157_1 (by decide) (fun h1 => ?_) (fun h1 => ?_)
  · have hf := hs_tt h1 hf
    exact wJ3_checkIndex_8e157_9 fu C hem σ a1 a2 hf hB hS hl
  · have hf := hs_ff h1 hf
    refine lv_iload_n hx hb dJ3_checkIndex_8e157_4 rfl (lv_at hl 0 rfl) ?_
    refine lv_iload_n hx hb dJ3_checkIndex_8e157_5 rfl (lv_at hl 1 rfl) ?_
    refine lv_icmp_lt (tgt := 16) hx hb dJ3_checkIndex_8e157_6 (by decide) (fun h2 => ?_) (fun h2 => ?_)
    · have hf := hs_tt h2 hf
      refine lv_iload_n hx hb dJ3_checkIndex_8e157_16 rfl (lv_at hl 0 rfl) ?_
      obtain ⟨rfl, rfl⟩ := hs_ri hf
      exact hs_iret hx hb hr hlk hB hS dJ3_checkIndex_8e157_17
    · have hf := hs_ff h2 hf
      exact wJ3_checkIndex_8e157_9 fu C hem σ a1 a2 hf hB hS hl
end SJ3_checkIndex_8e157
set_option maxRecDepth 100000 in
theorem ctJ3_checkIndex_8e157 (l : Launch) (fu : Nat) (σ : hs_T) (a1 : Int32) (a2 : Int32) : hs_C0 hs_tvi l yJ3_checkIndex_8e157 wsJ3_checkIndex_8e157 rmJ3_checkIndex_8e157 (fun ad => [.int a1, .int a2, .null]) σ (fJ3_checkIndex_8e157 fu σ a1 a2) := by
  intro X ad sz r τ hf
  refine hs_enter (cc := cJ3_checkIndex_8e157) (maxL := 3) (ret := (some .int)) (by decide) rfl (Nat.le_of_ble_eq_true rfl) ?_
  intro p e s m below meth c ls C hl hem hB hS hsz
  exact wJ3_checkIndex_8e157_e fu C hem σ a1 a2 hf hB hS hl
/-! java/util/Objects.checkIndex(II)I -/
abbrev rmJ15_checkIndex_7cf53 : Room := { frames := 1, cells := 0, slots := 0, locals := 22 }
def fJ15_checkIndex_7cf53 (fu : Nat) (σ : hs_T) (a1 : Int32) (a2 : Int32) : Option (Int32 × hs_T) :=
 hs_b2 (fJ3_checkIndex_8e157 fu σ a1 a2) fun v3 σ2 =>
 some (v3, σ2)
section SJ15_checkIndex_7cf53
variable {p : Program} {l : Launch} {e : Env} {s : State} {m : MethodId} {args : Array Value} {below : List Frame} {meth : Method} {c : Code} {X : hs_X} {ad : Nat → Nat} {A : Nat → Prop} {r : Int32} {τ : hs_T}
set_option maxRecDepth 100000 in
set_option maxHeartbeats 4000000 in
theorem wJ15_checkIndex_7cf53_e (fu : Nat) (C : hs_Cx p s m args meth c X A yJ15_checkIndex_7cf53 cJ15_checkIndex_7cf53 2 (some .int) wsJ15_checkIndex_7cf53) (hem : ad hs_em = X.2.2.1.2.2.2) {H : Heap} {locs : List Loc} {ls : Array Slot} (σ : hs_T) (a1 : Int32) (a2 : Int32) (hf : fJ15_checkIndex_7cf53 fu σ a1 a2 = some (r, τ)) (hB : hs_H X.1 X.2.1 ad A σ H) (hS : va_S A s.heap H locs) (hl : lv_has ls 2 [(0, .int a1), (1, .int a2)]) : W p l e rmJ15_checkIndex_7cf53 s m args below meth c H locs 0 0 (MQ below (hs_Q0 hs_tvi X ad A r τ) args s 0 0 A) (F0 m 0 ls []) := by
  obtain ⟨hx, hb, hml, hr, hts, hown, hlk, hnm, hV, hA0, hA⟩ := id C
  have hown : s.vm.findClass RJ15 = some m.cls := hown
  have hK := hV.1
  have hNw := hV.2.1
  unfold fJ15_checkIndex_7cf53 at hf
  refine lv_iload_n hx hb dJ15_checkIndex_7cf53_0 rfl (lv_at hl 0 rfl) ?_
  refine lv_iload_n hx hb dJ15_checkIndex_7cf53_1 rfl (lv_at hl 1 rfl) ?_
  refine lv_null hx hb dJ15_checkIndex_7cf53_2 ?_
  obtain ⟨v3, σ2, h1, hf⟩ := hs_b2i hf
  refine hs_call0 (va_runS (As := [.int a1, .int a2, .null]) (rest := []) ⟨hx, hb, hml, hown, hts⟩ (ctJ3_checkIndex_8e157 l fu σ a1 a2 X ad H.size _ _ h1) (va_cwS 3 hts gJ15_checkIndex_7cf53_J3_checkIndex_8e157 rfl rfl rfl (by decide +kernel) ⟨Nat.le_of_ble_eq_true rfl, Nat.le_of_ble_eq_true rfl⟩) (hs_pre hV hB hS hA0 hA hem) rfl rfl hl.1 rfl (lv_room (Nat.le_of_ble_eq_true rfl)) dJ15_checkIndex_7cf53_3 ⟨Nat.le_of_ble_eq_true rfl, Nat.le_of_ble_eq_true rfl⟩) hB hS hA rfl (fun H locs hB hS => ?_)
  obtain ⟨rfl, rfl⟩ := hs_ri hf
  exact hs_iret hx hb hr hlk hB hS dJ15_checkIndex_7cf53_6
end SJ15_checkIndex_7cf53
set_option maxRecDepth 100000 in
theorem ctJ15_checkIndex_7cf53 (l : Launch) (fu : Nat) (σ : hs_T) (a1 : Int32) (a2 : Int32) : hs_C0 hs_tvi l yJ15_checkIndex_7cf53 wsJ15_checkIndex_7cf53 rmJ15_checkIndex_7cf53 (fun ad => [.int a1, .int a2]) σ (fJ15_checkIndex_7cf53 fu σ a1 a2) := by
  intro X ad sz r τ hf
  refine hs_enter (cc := cJ15_checkIndex_7cf53) (maxL := 2) (ret := (some .int)) (by decide) rfl (Nat.le_of_ble_eq_true rfl) ?_
  intro p e s m below meth c ls C hl hem hB hS hsz
  exact wJ15_checkIndex_7cf53_e fu C hem σ a1 a2 hf hB hS hl
/-! java/util/ArrayList.get(I)Ljava/lang/Object; -/
abbrev rmJx4a65c_get_915e3 : Room := { frames := 2, cells := 0, slots := 0, locals := 43 }
theorem inJx4a65c_get_915e3_Jx4a65c : ∀ w ∈ wsJx4a65c0, w ∈ wsJx4a65c_get_915e3 := fun _ h => List.mem_cons_of_mem _ (List.mem_append_right _ h)
theorem lkJx4a65c_get_915e3_0 : Cond.fieldLink RJx4a65c 48 "java/util/ArrayList" "size" "I" ∈ wsJx4a65c_get_915e3 := by decide +kernel
def fJx4a65c_get_915e3 (fu : Nat) (σ : hs_T) (o : Nat) (a1 : Int32) : Option (Option Nat × hs_T) :=
 (hs_gI σ 1 o 2).bind fun v2 =>
 hs_b2 (fJ15_checkIndex_7cf53 fu σ a1 v2) fun v5 σ4 =>
 (hs_ck σ4 1 o).bind fun _ =>
 hs_b2 (fJx4a65c_elementData_915e3 fu σ4 o a1) fun r9 σ7 => hs_mt r9 none (fun n10 =>
 some ((some n10), σ7))
section SJx4a65c_get_915e3
variable {p : Program} {l : Launch} {e : Env} {s : State} {m : MethodId} {args : Array Value} {below : List Frame} {meth : Method} {c : Code} {X : hs_X} {ad : Nat → Nat} {A : Nat → Prop} {r : Option Nat} {τ : hs_T}
set_option maxRecDepth 100000 in
set_option maxHeartbeats 4000000 in
theorem wJx4a65c_get_915e3_e (fu : Nat) (C : hs_Cx p s m args meth c X A yJx4a65c_get_915e3 cJx4a65c_get_915e3 2 (some (.object "java/lang/Object")) wsJx4a65c_get_915e3) (hem : ad hs_em = X.2.2.1.2.2.2) {H : Heap} {locs : List Loc} {ls : Array Slot} (σ : hs_T) (o : Nat) (a1 : Int32) (hf : fJx4a65c_get_915e3 fu σ o a1 = some (r, τ)) (hB : hs_H X.1 X.2.1 ad A σ H) (hS : va_S A s.heap H locs) (hl : lv_has ls 2 [(0, .ref (ad o)), (1, .int a1)]) : W p l e rmJx4a65c_get_915e3 s m args below meth c H locs 0 0 (MQ below (hs_Q0 hs_tvr X ad A r τ) args s 0 0 A) (F0 m 0 ls []) := by
  obtain ⟨hx, hb, hml, hr, hts, hown, hlk, hnm, hV, hA0, hA⟩ := id C
  have hown : s.vm.findClass RJx4a65c = some m.cls := hown
  have hK := hV.1
  have hNw := hV.2.1
  unfold fJx4a65c_get_915e3 at hf
  refine lv_iload_n hx hb dJx4a65c_get_915e3_0 rfl (lv_at hl 1 rfl) ?_
  refine lv_aload_n hx hb dJx4a65c_get_915e3_1 rfl (lv_at hl 0 rfl) ?_
  obtain ⟨v2, h1, hf⟩ := hs_bi hf
  refine x_getI hx hb hts inJx4a65c_get_915e3_Jx4a65c hown hK hB (by decide) rfl (k := 2) (by decide) rfl h1 (hts _ lkJx4a65c_get_915e3_0) (fun _ h9 => h9) dJx4a65c_get_915e3_2 ?_
  obtain ⟨v5, σ4, h3, hf⟩ := hs_b2i hf
  refine hs_call0 (va_runS (As := [.int a1, .int v2]) (rest := []) ⟨hx, hb, hml, hown, hts⟩ (ctJ15_checkIndex_7cf53 l fu σ a1 v2 X ad H.size _ _ h3) (va_cwS 2 hts gJx4a65c_get_915e3_J15_checkIndex_7cf53 rfl rfl rfl (by decide +kernel) ⟨Nat.le_of_ble_eq_true rfl, Nat.le_of_ble_eq_true rfl⟩) (hs_pre hV hB hS hA0 hA hem) rfl rfl hl.1 rfl (lv_room (Nat.le_of_ble_eq_true rfl)) dJx4a65c_get_915e3_5 ⟨Nat.le_of_ble_eq_true rfl, Nat.le_of_ble_eq_true rfl⟩) hB hS hA rfl (fun H locs hB hS => ?_)
  refine lv_pop hx hb dJx4a65c_get_915e3_8 rfl ?_
  refine lv_aload_n hx hb dJx4a65c_get_915e3_9 rfl (lv_at hl 0 rfl) ?_
  refine lv_iload_n hx hb dJx4a65c_get_915e3_10 rfl (lv_at hl 1 rfl) ?_
  obtain ⟨_, h8, hf⟩ := hs_bi hf
  obtain ⟨r9, σ7, h6, hf⟩ := hs_b2i hf
  obtain ⟨n10, hf, rfl⟩ := hs_mx hf
  refine hs_call0 (va_runV (As := [.int a1]) (rest := []) ⟨hx, hb, hml, hown, hts⟩ (ctJx4a65c_elementData_915e3 l fu σ4 o a1 X ad H.size _ _ h6) (cwV 1 hts gJx4a65c_get_915e3_Jx4a65c_elementData_915e3 rfl rfl rfl (by decide +kernel) ⟨Nat.le_of_ble_eq_true rfl, Nat.le_of_ble_eq_true rfl⟩) (hs_preV (hs_recv hK hB (hs_ck_i h8) (by decide) rfl) hV hB hS hA0 hA hem) rfl rfl hl.1 rfl (lv_room (Nat.le_of_ble_eq_true rfl)) dJx4a65c_get_915e3_11 ⟨Nat.le_of_ble_eq_true rfl, Nat.le_of_ble_eq_true rfl⟩) hB hS hA rfl (fun H locs hB hS => ?_)
  obtain ⟨rfl, rfl⟩ := hs_ri hf
  exact hs_aret hx hb hr hlk (some n10) rfl hB hS dJx4a65c_get_915e3_14
end SJx4a65c_get_915e3
set_option maxRecDepth 100000 in
theorem ctJx4a65c_get_915e3 (l : Launch) (fu : Nat) (σ : hs_T) (o : Nat) (a1 : Int32) : hs_C0 hs_tvr l yJx4a65c_get_915e3 wsJx4a65c_get_915e3 rmJx4a65c_get_915e3 (fun ad => [.ref (ad o), .int a1]) σ (fJx4a65c_get_915e3 fu σ o a1) := by
  intro X ad sz r τ hf
  refine hs_enter (cc := cJx4a65c_get_915e3) (maxL := 2) (ret := (some (.object "java/lang/Object"))) (by decide) rfl (Nat.le_of_ble_eq_true rfl) ?_
  intro p e s m below meth c ls C hl hem hB hS hsz
  exact wJx4a65c_get_915e3_e fu C hem σ o a1 hf hB hS hl
/-! java/util/ArrayList.isEmpty()Z -/
abbrev rmJx4a65c_isEmpty_aae02 : Room := { frames := 0, cells := 0, slots := 0, locals := 0 }
theorem inJx4a65c_isEmpty_aae02_Jx4a65c : ∀ w ∈ wsJx4a65c0, w ∈ wsJx4a65c_isEmpty_aae02 := fun _ h => List.mem_cons_of_mem _ (List.mem_append_right _ h)
theorem lkJx4a65c_isEmpty_aae02_0 : Cond.fieldLink RJx4a65c 48 "java/util/ArrayList" "size" "I" ∈ wsJx4a65c_isEmpty_aae02 := by decide +kernel
def fJx4a65c_isEmpty_aae02 (fu : Nat) (σ : hs_T) (o : Nat) : Option (Int32 × hs_T) :=
 (hs_gI σ 1 o 2).bind fun v2 =>
 if v2 = 0 then
 (some (1, σ))
 else
 (some (0, σ))
section SJx4a65c_isEmpty_aae02
variable {p : Program} {l : Launch} {e : Env} {s : State} {m : MethodId} {args : Array Value} {below : List Frame} {meth : Method} {c : Code} {X : hs_X} {ad : Nat → Nat} {A : Nat → Prop} {r : Int32} {τ : hs_T}
set_option maxRecDepth 100000 in
set_option maxHeartbeats 4000000 in
theorem wJx4a65c_isEmpty_aae02_e (fu : Nat) (C : hs_Cx p s m args meth c X A yJx4a65c_isEmpty_aae02 cJx4a65c_isEmpty_aae02 1 (some .boolean) wsJx4a65c_isEmpty_aae02) (hem : ad hs_em = X.2.2.1.2.2.2) {H : Heap} {locs : List Loc} {ls : Array Slot} (σ : hs_T) (o : Nat) (hf : fJx4a65c_isEmpty_aae02 fu σ o = some (r, τ)) (hB : hs_H X.1 X.2.1 ad A σ H) (hS : va_S A s.heap H locs) (hl : lv_has ls 1 [(0, .ref (ad o))]) : W p l e rmJx4a65c_isEmpty_aae02 s m args below meth c H locs 0 0 (MQ below (hs_Q0 hs_tvi X ad A r τ) args s 0 0 A) (F0 m 0 ls []) := by
  obtain ⟨hx, hb, hml, hr, hts, hown, hlk, hnm, hV, hA0, hA⟩ := id C
  have hown : s.vm.findClass RJx4a65c = some m.cls := hown
  have hK := hV.1
  have hNw := hV.2.1
  unfold fJx4a65c_isEmpty_aae02 at hf
  refine lv_aload_n hx hb dJx4a65c_isEmpty_aae02_0 rfl (lv_at hl 0 rfl) ?_
  obtain ⟨v2, h1, hf⟩ := hs_bi hf
  refine x_getI hx hb hts inJx4a65c_isEmpty_aae02_Jx4a65c hown hK hB (by decide) rfl (k := 2) (by decide) rfl h1 (hts _ lkJx4a65c_isEmpty_aae02_0) (fun _ h9 => h9) dJx4a65c_isEmpty_aae02_1 ?_
  refine lv_if_ne (tgt := 11) hx hb dJx4a65c_isEmpty_aae02_4 (by decide) (fun h3 => ?_) (fun h3 => ?_)
  · have hf := hs_ff h3 hf
    refine lv_iconst (v := 0) hx hb dJx4a65c_isEmpty_aae02_11 (by decide) ?_
    obtain ⟨rfl, rfl⟩ := hs_ri hf
    exact hs_zret hx hb hr hlk (by decide) hB hS dJx4a65c_isEmpty_aae02_12
  · have hf := hs_tt h3 hf
    refine lv_iconst (v := 1) hx hb dJx4a65c_isEmpty_aae02_7 (by decide) ?_
    refine lv_goto (tgt := 12) hx hb dJx4a65c_isEmpty_aae02_8 (by decide) ?_
    obtain ⟨rfl, rfl⟩ := hs_ri hf
    exact hs_zret hx hb hr hlk (by decide) hB hS dJx4a65c_isEmpty_aae02_12
end SJx4a65c_isEmpty_aae02
set_option maxRecDepth 100000 in
theorem ctJx4a65c_isEmpty_aae02 (l : Launch) (fu : Nat) (σ : hs_T) (o : Nat) : hs_C0 hs_tvi l yJx4a65c_isEmpty_aae02 wsJx4a65c_isEmpty_aae02 rmJx4a65c_isEmpty_aae02 (fun ad => [.ref (ad o)]) σ (fJx4a65c_isEmpty_aae02 fu σ o) := by
  intro X ad sz r τ hf
  refine hs_enter (cc := cJx4a65c_isEmpty_aae02) (maxL := 1) (ret := (some .boolean)) (by decide) rfl (Nat.le_of_ble_eq_true rfl) ?_
  intro p e s m below meth c ls C hl hem hB hS hsz
  exact wJx4a65c_isEmpty_aae02_e fu C hem σ o hf hB hS hl
/-! java/lang/Integer.bitCount(I)I -/
abbrev rmJ6_bitCount_0f7a4 : Room := { frames := 0, cells := 0, slots := 0, locals := 0 }
theorem lkJ6_bitCount_0f7a4_0 : Cond.constant RJ6 265 (1431655765) ∈ wsJ6_bitCount_0f7a4 := by decide +kernel
theorem lkJ6_bitCount_0f7a4_1 : Cond.constant RJ6 266 (858993459) ∈ wsJ6_bitCount_0f7a4 := by decide +kernel
theorem lkJ6_bitCount_0f7a4_2 : Cond.constant RJ6 267 (252645135) ∈ wsJ6_bitCount_0f7a4 := by decide +kernel
def fJ6_bitCount_0f7a4 (fu : Nat) (σ : hs_T) (a1 : Int32) : Option (Int32 × hs_T) :=
 some (((((((((a1 - ((a1.toUInt32 >>> ((1 : Int32).toUInt32 &&& Int32.toUInt32 31)).toInt32 &&& 1431655765)) &&& 858993459) + (((a1 - ((a1.toUInt32 >>> ((1 : Int32).toUInt32 &&& Int32.toUInt32 31)).toInt32 &&& 1431655765)).toUInt32 >>> ((2 : Int32).toUInt32 &&& Int32.toUInt32 31)).toInt32 &&& 858993459)) + ((((a1 - ((a1.toUInt32 >>> ((1 : Int32).toUInt32 &&& Int32.toUInt32 31)).toInt32 &&& 1431655765)) &&& 858993459) + (((a1 - ((a1.toUInt32 >>> ((1 : Int32).toUInt32 &&& Int32.toUInt32 31)).toInt32 &&& 1431655765)).toUInt32 >>> ((2 : Int32).toUInt32 &&& Int32.toUInt32 31)).toInt32 &&& 858993459)).toUInt32 >>> ((4 : Int32).toUInt32 &&& Int32.toUInt32 31)).toInt32) &&& 252645135) + ((((((a1 - ((a1.toUInt32 >>> ((1 : Int32).toUInt32 &&& Int32.toUInt32 31)).toInt32 &&& 1431655765)) &&& 858993459) + (((a1 - ((a1.toUInt32 >>> ((1 : Int32).toUInt32 &&& Int32.toUInt32 31)).toInt32 &&& 1431655765)).toUInt32 >>> ((2 : Int32).toUInt32 &&& Int32.toUInt32 31)).toInt32 &&& 858993459)) + ((((a1 - ((a1.toUInt32 >>> ((1 : Int32).toUInt32 &&& Int32.toUInt32 31)).toInt32 &&& 1431655765)) &&& 858993459) + (((a1 - ((a1.toUInt32 >>> ((1 : Int32).toUInt32 &&& Int32.toUInt32 31)).toInt32 &&& 1431655765)).toUInt32 >>> ((2 : Int32).toUInt32 &&& Int32.toUInt32 31)).toInt32 &&& 858993459)).toUInt32 >>> ((4 : Int32).toUInt32 &&& Int32.toUInt32 31)).toInt32) &&& 252645135).toUInt32 >>> ((8 : Int32).toUInt32 &&& Int32.toUInt32 31)).toInt32) + (((((((a1 - ((a1.toUInt32 >>> ((1 : Int32).toUInt32 &&& Int32.toUInt32 31)).toInt32 &&& 1431655765)) &&& 858993459) + (((a1 - ((a1.toUInt32 >>> ((1 : Int32).toUInt32 &&& Int32.toUInt32 31)).toInt32 &&& 1431655765)).toUInt32 >>> ((2 : Int32).toUInt32 &&& Int32.toUInt32 31)).toInt32 &&& 858993459)) + ((((a1 - ((a1.toUInt32 >>> ((1 : Int32).toUInt32 &&& Int32.toUInt32 31)).toInt32 &&& 1431655765)) &&& 858993459) + (((a1 - ((a1.toUInt32 >>> ((1 : Int32).toUInt32 &&& Int32.toUInt32 31)).toInt32 &&& 1431655765)).toUInt32 >>> ((2 : Int32).toUInt32 &&& Int32.toUInt32 31)).toInt32 &&& 858993459)).toUInt32 >>> ((4 : Int32).toUInt32 &&& Int32.toUInt32 31)).toInt32) &&& 252645135) + ((((((a1 - ((a1.toUInt32 >>> ((1 : Int32).toUInt32 &&& Int32.toUInt32 31)).toInt32 &&& 1431655765)) &&& 858993459) + (((a1 - ((a1.toUInt32 >>> ((1 : Int32).toUInt32 &&& Int32.toUInt32 31)).toInt32 &&& 1431655765)).toUInt32 >>> ((2 : Int32).toUInt32 &&& Int32.toUInt32 31)).toInt32 &&& 858993459)) + ((((a1 - ((a1.toUInt32 >>> ((1 : Int32).toUInt32 &&& Int32.toUInt32 31)).toInt32 &&& 1431655765)) &&& 858993459) + (((a1 - ((a1.toUInt32 >>> ((1 : Int32).toUInt32 &&& Int32.toUInt32 31)).toInt32 &&& 1431655765)).toUInt32 >>> ((2 : Int32).toUInt32 &&& Int32.toUInt32 31)).toInt32 &&& 858993459)).toUInt32 >>> ((4 : Int32).toUInt32 &&& Int32.toUInt32 31)).toInt32) &&& 252645135).toUInt32 >>> ((8 : Int32).toUInt32 &&& Int32.toUInt32 31)).toInt32).toUInt32 >>> ((16 : Int32).toUInt32 &&& Int32.toUInt32 31)).toInt32) &&& 63), σ)
section SJ6_bitCount_0f7a4
variable {p : Program} {l : Launch} {e : Env} {s : State} {m : MethodId} {args : Array Value} {below : List Frame} {meth : Method} {c : Code} {X : hs_X} {ad : Nat → Nat} {A : Nat → Prop} {r : Int32} {τ : hs_T}
set_option maxRecDepth 100000 in
set_option maxHeartbeats 4000000 in
theorem wJ6_bitCount_0f7a4_e (fu : Nat) (C : hs_Cx p s m args meth c X A yJ6_bitCount_0f7a4 cJ6_bitCount_0f7a4 1 (some .int) wsJ6_bitCount_0f7a4) (hem : ad hs_em = X.2.2.1.2.2.2) {H : Heap} {locs : List Loc} {ls : Array Slot} (σ : hs_T) (a1 : Int32) (hf : fJ6_bitCount_0f7a4 fu σ a1 = some (r, τ)) (hB : hs_H X.1 X.2.1 ad A σ H) (hS : va_S A s.heap H locs) (hl : lv_has ls 1 [(0, .int a1)]) : W p l e rmJ6_bitCount_0f7a4 s m args below meth c H locs 0 0 (MQ below (hs_Q0 hs_tvi X ad A r τ) args s 0 0 A) (F0 m 0 ls []) := by
  obtain ⟨hx, hb, hml, hr, hts, hown, hlk, hnm, hV, hA0, hA⟩ := id C
  have hown : s.vm.findClass RJ6 = some m.cls := hown
  have hK := hV.1
  have hNw := hV.2.1
  unfold fJ6_bitCount_0f7a4 at hf
  refine lv_iload_n hx hb dJ6_bitCount_0f7a4_0 rfl (lv_at hl 0 rfl) ?_
  refine lv_iload_n hx hb dJ6_bitCount_0f7a4_1 rfl (lv_at hl 0 rfl) ?_
  refine lv_iconst (v := 1) hx hb dJ6_bitCount_0f7a4_2 (by decide) ?_
  refine lv_iushr hx hb dJ6_bitCount_0f7a4_3 rfl ?_
  refine lv_ldcw hx hb hown (hts _ lkJ6_bitCount_0f7a4_0) dJ6_bitCount_0f7a4_4 ?_
  refine lv_iand hx hb dJ6_bitCount_0f7a4_7 ?_
  refine lv_isub hx hb dJ6_bitCount_0f7a4_8 ?_
  refine lv_istore_n (lv' := [(0, .int (a1 - ((a1.toUInt32 >>> ((1 : Int32).toUInt32 &&& Int32.toUInt32 31)).toInt32 &&& 1431655765)))]) hx hb dJ6_bitCount_0f7a4_9 rfl hl (by decide) rfl (fun ls hl => ?_)
  refine lv_iload_n hx hb dJ6_bitCount_0f7a4_10 rfl (lv_at hl 0 rfl) ?_
  refine lv_ldcw hx hb hown (hts _ lkJ6_bitCount_0f7a4_1) dJ6_bitCount_0f7a4_11 ?_
  refine lv_iand hx hb dJ6_bitCount_0f7a4_14 ?_
  refine lv_iload_n hx hb dJ6_bitCount_0f7a4_15 rfl (lv_at hl 0 rfl) ?_
  refine lv_iconst (v := 2) hx hb dJ6_bitCount_0f7a4_16 (by decide) ?_
  refine lv_iushr hx hb dJ6_bitCount_0f7a4_17 rfl ?_
  refine lv_ldcw hx hb hown (hts _ lkJ6_bitCount_0f7a4_1) dJ6_bitCount_0f7a4_18 ?_
  refine lv_iand hx hb dJ6_bitCount_0f7a4_21 ?_
  refine lv_iadd hx hb dJ6_bitCount_0f7a4_22 ?_
  refine lv_istore_n (lv' := [(0, .int (((a1 - ((a1.toUInt32 >>> ((1 : Int32).toUInt32 &&& Int32.toUInt32 31)).toInt32 &&& 1431655765)) &&& 858993459) + (((a1 - ((a1.toUInt32 >>> ((1 : Int32).toUInt32 &&& Int32.toUInt32 31)).toInt32 &&& 1431655765)).toUInt32 >>> ((2 : Int32).toUInt32 &&& Int32.toUInt32 31)).toInt32 &&& 858993459)))]) hx hb dJ6_bitCount_0f7a4_23 rfl hl (by decide) rfl (fun ls hl => ?_)
  refine lv_iload_n hx hb dJ6_bitCount_0f7a4_24 rfl (lv_at hl 0 rfl) ?_
  refine lv_iload_n hx hb dJ6_bitCount_0f7a4_25 rfl (lv_at hl 0 rfl) ?_
  refine lv_iconst (v := 4) hx hb dJ6_bitCount_0f7a4_26 (by decide) ?_
  refine lv_iushr hx hb dJ6_bitCount_0f7a4_27 rfl ?_
  refine lv_iadd hx hb dJ6_bitCount_0f7a4_28 ?_
  refine lv_ldcw hx hb hown (hts _ lkJ6_bitCount_0f7a4_2) dJ6_bitCount_0f7a4_29 ?_
  refine lv_iand hx hb dJ6_bitCount_0f7a4_32 ?_
  refine lv_istore_n (lv' := [(0, .int (((((a1 - ((a1.toUInt32 >>> ((1 : Int32).toUInt32 &&& Int32.toUInt32 31)).toInt32 &&& 1431655765)) &&& 858993459) + (((a1 - ((a1.toUInt32 >>> ((1 : Int32).toUInt32 &&& Int32.toUInt32 31)).toInt32 &&& 1431655765)).toUInt32 >>> ((2 : Int32).toUInt32 &&& Int32.toUInt32 31)).toInt32 &&& 858993459)) + ((((a1 - ((a1.toUInt32 >>> ((1 : Int32).toUInt32 &&& Int32.toUInt32 31)).toInt32 &&& 1431655765)) &&& 858993459) + (((a1 - ((a1.toUInt32 >>> ((1 : Int32).toUInt32 &&& Int32.toUInt32 31)).toInt32 &&& 1431655765)).toUInt32 >>> ((2 : Int32).toUInt32 &&& Int32.toUInt32 31)).toInt32 &&& 858993459)).toUInt32 >>> ((4 : Int32).toUInt32 &&& Int32.toUInt32 31)).toInt32) &&& 252645135))]) hx hb dJ6_bitCount_0f7a4_33 rfl hl (by decide) rfl (fun ls hl => ?_)
  refine lv_iload_n hx hb dJ6_bitCount_0f7a4_34 rfl (lv_at hl 0 rfl) ?_
  refine lv_iload_n hx hb dJ6_bitCount_0f7a4_35 rfl (lv_at hl 0 rfl) ?_
  refine lv_bipush (v := 8) hx hb dJ6_bitCount_0f7a4_36 (by decide) ?_
  refine lv_iushr hx hb dJ6_bitCount_0f7a4_38 rfl ?_
  refine lv_iadd hx hb dJ6_bitCount_0f7a4_39 ?_
  refine lv_istore_n (lv' := [(0, .int ((((((a1 - ((a1.toUInt32 >>> ((1 : Int32).toUInt32 &&& Int32.toUInt32 31)).toInt32 &&& 1431655765)) &&& 858993459) + (((a1 - ((a1.toUInt32 >>> ((1 : Int32).toUInt32 &&& Int32.toUInt32 31)).toInt32 &&& 1431655765)).toUInt32 >>> ((2 : Int32).toUInt32 &&& Int32.toUInt32 31)).toInt32 &&& 858993459)) + ((((a1 - ((a1.toUInt32 >>> ((1 : Int32).toUInt32 &&& Int32.toUInt32 31)).toInt32 &&& 1431655765)) &&& 858993459) + (((a1 - ((a1.toUInt32 >>> ((1 : Int32).toUInt32 &&& Int32.toUInt32 31)).toInt32 &&& 1431655765)).toUInt32 >>> ((2 : Int32).toUInt32 &&& Int32.toUInt32 31)).toInt32 &&& 858993459)).toUInt32 >>> ((4 : Int32).toUInt32 &&& Int32.toUInt32 31)).toInt32) &&& 252645135) + ((((((a1 - ((a1.toUInt32 >>> ((1 : Int32).toUInt32 &&& Int32.toUInt32 31)).toInt32 &&& 1431655765)) &&& 858993459) + (((a1 - ((a1.toUInt32 >>> ((1 : Int32).toUInt32 &&& Int32.toUInt32 31)).toInt32 &&& 1431655765)).toUInt32 >>> ((2 : Int32).toUInt32 &&& Int32.toUInt32 31)).toInt32 &&& 858993459)) + ((((a1 - ((a1.toUInt32 >>> ((1 : Int32).toUInt32 &&& Int32.toUInt32 31)).toInt32 &&& 1431655765)) &&& 858993459) + (((a1 - ((a1.toUInt32 >>> ((1 : Int32).toUInt32 &&& Int32.toUInt32 31)).toInt32 &&& 1431655765)).toUInt32 >>> ((2 : Int32).toUInt32 &&& Int32.toUInt32 31)).toInt32 &&& 858993459)).toUInt32 >>> ((4 : Int32).toUInt32 &&& Int32.toUInt32 31)).toInt32) &&& 252645135).toUInt32 >>> ((8 : Int32).toUInt32 &&& Int32.toUInt32 31)).toInt32))]) hx hb dJ6_bitCount_0f7a4_40 rfl hl (by decide) rfl (fun ls hl => ?_)
  refine lv_iload_n hx hb dJ6_bitCount_0f7a4_41 rfl (lv_at hl 0 rfl) ?_
  refine lv_iload_n hx hb dJ6_bitCount_0f7a4_42 rfl (lv_at hl 0 rfl) ?_
  refine lv_bipush (v := 16) hx hb dJ6_bitCount_0f7a4_43 (by decide) ?_
  refine lv_iushr hx hb dJ6_bitCount_0f7a4_45 rfl ?_
  refine lv_iadd hx hb dJ6_bitCount_0f7a4_46 ?_
  refine lv_istore_n (lv' := [(0, .int (((((((a1 - ((a1.toUInt32 >>> ((1 : Int32).toUInt32 &&& Int32.toUInt32 31)).toInt32 &&& 1431655765)) &&& 858993459) + (((a1 - ((a1.toUInt32 >>> ((1 : Int32).toUInt32 &&& Int32.toUInt32 31)).toInt32 &&& 1431655765)).toUInt32 >>> ((2 : Int32).toUInt32 &&& Int32.toUInt32 31)).toInt32 &&& 858993459)) + ((((a1 - ((a1.toUInt32 >>> ((1 : Int32).toUInt32 &&& Int32.toUInt32 31)).toInt32 &&& 1431655765)) &&& 858993459) + (((a1 - ((a1.toUInt32 >>> ((1 : Int32).toUInt32 &&& Int32.toUInt32 31)).toInt32 &&& 1431655765)).toUInt32 >>> ((2 : Int32).toUInt32 &&& Int32.toUInt32 31)).toInt32 &&& 858993459)).toUInt32 >>> ((4 : Int32).toUInt32 &&& Int32.toUInt32 31)).toInt32) &&& 252645135) + ((((((a1 - ((a1.toUInt32 >>> ((1 : Int32).toUInt32 &&& Int32.toUInt32 31)).toInt32 &&& 1431655765)) &&& 858993459) + (((a1 - ((a1.toUInt32 >>> ((1 : Int32).toUInt32 &&& Int32.toUInt32 31)).toInt32 &&& 1431655765)).toUInt32 >>> ((2 : Int32).toUInt32 &&& Int32.toUInt32 31)).toInt32 &&& 858993459)) + ((((a1 - ((a1.toUInt32 >>> ((1 : Int32).toUInt32 &&& Int32.toUInt32 31)).toInt32 &&& 1431655765)) &&& 858993459) + (((a1 - ((a1.toUInt32 >>> ((1 : Int32).toUInt32 &&& Int32.toUInt32 31)).toInt32 &&& 1431655765)).toUInt32 >>> ((2 : Int32).toUInt32 &&& Int32.toUInt32 31)).toInt32 &&& 858993459)).toUInt32 >>> ((4 : Int32).toUInt32 &&& Int32.toUInt32 31)).toInt32) &&& 252645135).toUInt32 >>> ((8 : Int32).toUInt32 &&& Int32.toUInt32 31)).toInt32) + (((((((a1 - ((a1.toUInt32 >>> ((1 : Int32).toUInt32 &&& Int32.toUInt32 31)).toInt32 &&& 1431655765)) &&& 858993459) + (((a1 - ((a1.toUInt32 >>> ((1 : Int32).toUInt32 &&& Int32.toUInt32 31)).toInt32 &&& 1431655765)).toUInt32 >>> ((2 : Int32).toUInt32 &&& Int32.toUInt32 31)).toInt32 &&& 858993459)) + ((((a1 - ((a1.toUInt32 >>> ((1 : Int32).toUInt32 &&& Int32.toUInt32 31)).toInt32 &&& 1431655765)) &&& 858993459) + (((a1 - ((a1.toUInt32 >>> ((1 : Int32).toUInt32 &&& Int32.toUInt32 31)).toInt32 &&& 1431655765)).toUInt32 >>> ((2 : Int32).toUInt32 &&& Int32.toUInt32 31)).toInt32 &&& 858993459)).toUInt32 >>> ((4 : Int32).toUInt32 &&& Int32.toUInt32 31)).toInt32) &&& 252645135) + ((((((a1 - ((a1.toUInt32 >>> ((1 : Int32).toUInt32 &&& Int32.toUInt32 31)).toInt32 &&& 1431655765)) &&& 858993459) + (((a1 - ((a1.toUInt32 >>> ((1 : Int32).toUInt32 &&& Int32.toUInt32 31)).toInt32 &&& 1431655765)).toUInt32 >>> ((2 : Int32).toUInt32 &&& Int32.toUInt32 31)).toInt32 &&& 858993459)) + ((((a1 - ((a1.toUInt32 >>> ((1 : Int32).toUInt32 &&& Int32.toUInt32 31)).toInt32 &&& 1431655765)) &&& 858993459) + (((a1 - ((a1.toUInt32 >>> ((1 : Int32).toUInt32 &&& Int32.toUInt32 31)).toInt32 &&& 1431655765)).toUInt32 >>> ((2 : Int32).toUInt32 &&& Int32.toUInt32 31)).toInt32 &&& 858993459)).toUInt32 >>> ((4 : Int32).toUInt32 &&& Int32.toUInt32 31)).toInt32) &&& 252645135).toUInt32 >>> ((8 : Int32).toUInt32 &&& Int32.toUInt32 31)).toInt32).toUInt32 >>> ((16 : Int32).toUInt32 &&& Int32.toUInt32 31)).toInt32))]) hx hb dJ6_bitCount_0f7a4_47 rfl hl (by decide) rfl (fun ls hl => ?_)
  refine lv_iload_n hx hb dJ6_bitCount_0f7a4_48 rfl (lv_at hl 0 rfl) ?_
  refine lv_bipush (v := 63) hx hb dJ6_bitCount_0f7a4_49 (by decide) ?_
  refine lv_iand hx hb dJ6_bitCount_0f7a4_51 ?_
  obtain ⟨rfl, rfl⟩ := hs_ri hf
  exact hs_iret hx hb hr hlk hB hS dJ6_bitCount_0f7a4_52
end SJ6_bitCount_0f7a4
set_option maxRecDepth 100000 in
theorem ctJ6_bitCount_0f7a4 (l : Launch) (fu : Nat) (σ : hs_T) (a1 : Int32) : hs_C0 hs_tvi l yJ6_bitCount_0f7a4 wsJ6_bitCount_0f7a4 rmJ6_bitCount_0f7a4 (fun ad => [.int a1]) σ (fJ6_bitCount_0f7a4 fu σ a1) := by
  intro X ad sz r τ hf
  refine hs_enter (cc := cJ6_bitCount_0f7a4) (maxL := 1) (ret := (some .int)) (by decide) rfl (Nat.le_of_ble_eq_true rfl) ?_
  intro p e s m below meth c ls C hl hem hB hS hsz
  exact wJ6_bitCount_0f7a4_e fu C hem σ a1 hf hB hS hl
