/-! java/util/AbstractCollection.<init>()V -/
abbrev rmJxa1e45_init_da8c8 : Room := { frames := 1, cells := 0, slots := 0, locals := 12 }
theorem lkJxa1e45_init_da8c8_0 : Cond.code objectInit ⟨#[0xb1]⟩ 1 none ∈ wsJxa1e45_init_da8c8 := by decide +kernel
theorem lkJxa1e45_init_da8c8_1 : Cond.methodLink RJxa1e45 1 objectInit ∈ wsJxa1e45_init_da8c8 := by decide +kernel
theorem lkJxa1e45_init_da8c8_2 : Cond.instanceMethod objectInit ∈ wsJxa1e45_init_da8c8 := by decide +kernel
def fJxa1e45_init_da8c8 (fu : Nat) (σ : hs_T) (o : Nat) : Option (Unit × hs_T) :=
 some ((), σ)
section SJxa1e45_init_da8c8
variable {p : Program} {l : Launch} {e : Env} {s : State} {m : MethodId} {args : Array Value} {below : List Frame} {meth : Method} {c : Code} {X : hs_X} {ad : Nat → Nat} {A : Nat → Prop} {r : Unit} {τ : hs_T}
set_option maxRecDepth 100000 in
set_option maxHeartbeats 4000000 in
theorem wJxa1e45_init_da8c8_e (fu : Nat) (C : hs_Cx p s m args meth c X A yJxa1e45_init_da8c8 cJxa1e45_init_da8c8 1 none wsJxa1e45_init_da8c8) (hem : ad hs_em = X.2.2.1.2.2.2) {H : Heap} {locs : List Loc} {ls : Array Slot} (σ : hs_T) (o : Nat) (hf : fJxa1e45_init_da8c8 fu σ o = some (r, τ)) (hB : hs_H X.1 X.2.1 ad A σ H) (hS : va_S A s.heap H locs) (hl : lv_has ls 1 [(0, .ref (ad o))]) : W p l e rmJxa1e45_init_da8c8 s m args below meth c H locs 0 0 (MQ below (hs_Q0 hs_tvv X ad A r τ) args s 0 0 A) (F0 m 0 ls []) := by
  obtain ⟨hx, hb, hml, hr, hts, hown, hlk, hnm, hV, hA0, hA⟩ := id C
  have hown : s.vm.findClass RJxa1e45 = some m.cls := hown
  have hK := hV.1
  have hNw := hV.2.1
  unfold fJxa1e45_init_da8c8 at hf
  refine lv_aload_n hx hb dJxa1e45_init_da8c8_0 rfl (lv_at hl 0 rfl) ?_
  refine W.objInit hx hb hown (hts _ lkJxa1e45_init_da8c8_1) (hts _ lkJxa1e45_init_da8c8_2) (hts _ lkJxa1e45_init_da8c8_0) rfl (by rw [hml]; exact hl.1) rfl dJxa1e45_init_da8c8_1 (Nat.le_of_ble_eq_true rfl) (Nat.le_of_ble_eq_true rfl) ?_
  refine W.eq (g2 := F0 m 4 ls []) rfl ?_
  obtain ⟨rfl, rfl⟩ := hs_ri hf
  exact hs_vret hx hb hr hlk hB hS dJxa1e45_init_da8c8_4
end SJxa1e45_init_da8c8
set_option maxRecDepth 100000 in
theorem ctJxa1e45_init_da8c8 (l : Launch) (fu : Nat) (σ : hs_T) (o : Nat) : hs_C0 hs_tvv l yJxa1e45_init_da8c8 wsJxa1e45_init_da8c8 rmJxa1e45_init_da8c8 (fun ad => [.ref (ad o)]) σ (fJxa1e45_init_da8c8 fu σ o) := by
  intro X ad sz r τ hf
  refine hs_enter (cc := cJxa1e45_init_da8c8) (maxL := 1) (ret := none) (by decide) rfl (Nat.le_of_ble_eq_true rfl) ?_
  intro p e s m below meth c ls C hl hem hB hS hsz
  exact wJxa1e45_init_da8c8_e fu C hem σ o hf hB hS hl
/-! java/util/AbstractList.<init>()V -/
abbrev rmJxc12de_init_da8c8 : Room := { frames := 2, cells := 0, slots := 0, locals := 32 }
theorem inJxc12de_init_da8c8_Jx4a65c : ∀ w ∈ wsJx4a65c0, w ∈ wsJxc12de_init_da8c8 := fun _ h => List.mem_cons_of_mem _ (List.mem_append_right _ h)
theorem lkJxc12de_init_da8c8_0 : Cond.initialized RJxa1e45 ∈ wsJxc12de_init_da8c8 := by decide +kernel
theorem lkJxc12de_init_da8c8_1 : Cond.methodLink RJxc12de 1 yJxa1e45_init_da8c8 ∈ wsJxc12de_init_da8c8 := by decide +kernel
theorem lkJxc12de_init_da8c8_2 : Cond.instanceMethod yJxa1e45_init_da8c8 ∈ wsJxc12de_init_da8c8 := by decide +kernel
theorem lkJxc12de_init_da8c8_3 : Cond.fieldLink RJxc12de 7 "java/util/AbstractList" "modCount" "I" ∈ wsJxc12de_init_da8c8 := by decide +kernel
def fJxc12de_init_da8c8 (fu : Nat) (σ : hs_T) (o : Nat) : Option (Unit × hs_T) :=
 (hs_ck σ 1 o).bind fun _ =>
 hs_b2 (fJxa1e45_init_da8c8 fu σ o) fun _ σ2 =>
 (hs_pI σ2 1 o 0 0).bind fun σ5 =>
 some ((), σ5)
section SJxc12de_init_da8c8
variable {p : Program} {l : Launch} {e : Env} {s : State} {m : MethodId} {args : Array Value} {below : List Frame} {meth : Method} {c : Code} {X : hs_X} {ad : Nat → Nat} {A : Nat → Prop} {r : Unit} {τ : hs_T}
set_option maxRecDepth 100000 in
set_option maxHeartbeats 4000000 in
theorem wJxc12de_init_da8c8_e (fu : Nat) (C : hs_Cx p s m args meth c X A yJxc12de_init_da8c8 cJxc12de_init_da8c8 1 none wsJxc12de_init_da8c8) (hem : ad hs_em = X.2.2.1.2.2.2) {H : Heap} {locs : List Loc} {ls : Array Slot} (σ : hs_T) (o : Nat) (hf : fJxc12de_init_da8c8 fu σ o = some (r, τ)) (hB : hs_H X.1 X.2.1 ad A σ H) (hS : va_S A s.heap H locs) (hl : lv_has ls 1 [(0, .ref (ad o))]) : W p l e rmJxc12de_init_da8c8 s m args below meth c H locs 0 0 (MQ below (hs_Q0 hs_tvv X ad A r τ) args s 0 0 A) (F0 m 0 ls []) := by
  obtain ⟨hx, hb, hml, hr, hts, hown, hlk, hnm, hV, hA0, hA⟩ := id C
  have hown : s.vm.findClass RJxc12de = some m.cls := hown
  have hK := hV.1
  have hNw := hV.2.1
  unfold fJxc12de_init_da8c8 at hf
  refine lv_aload_n hx hb dJxc12de_init_da8c8_0 rfl (lv_at hl 0 rfl) ?_
  obtain ⟨_, h3, hf⟩ := hs_bi hf
  obtain ⟨_, σ2, h1, hf⟩ := hs_b2i hf
  refine hs_call0 (va_runI (As := []) (rest := []) ⟨hx, hb, hml, hown, hts⟩ (ctJxa1e45_init_da8c8 l fu σ o X ad H.size _ _ h1) (cwI 0 hts gJxc12de_init_da8c8_Jxa1e45_init_da8c8 rfl rfl rfl (hts _ lkJxc12de_init_da8c8_0) (hts _ lkJxc12de_init_da8c8_1) (hts _ lkJxc12de_init_da8c8_2) rfl (by decide +kernel) ⟨Nat.le_of_ble_eq_true rfl, Nat.le_of_ble_eq_true rfl⟩) (hs_pre hV hB hS hA0 hA hem) rfl rfl hl.1 rfl (lv_room (Nat.le_of_ble_eq_true rfl)) dJxc12de_init_da8c8_1 ⟨Nat.le_of_ble_eq_true rfl, Nat.le_of_ble_eq_true rfl⟩) hB hS hA rfl (fun H locs hB hS => ?_)
  refine lv_aload_n hx hb dJxc12de_init_da8c8_4 rfl (lv_at hl 0 rfl) ?_
  refine lv_iconst (v := 0) hx hb dJxc12de_init_da8c8_5 (by decide) ?_
  obtain ⟨σ5, h4, hf⟩ := hs_bi hf
  refine x_putI hx hb hts inJxc12de_init_da8c8_Jx4a65c tyJx4a65c_ok nmJx4a65c hown hK hB hS (by decide) rfl (k := 0) (by decide) rfl h4 (hts _ lkJxc12de_init_da8c8_3) (fun _ h9 => h9) rfl (by decide +kernel) dJxc12de_init_da8c8_6 (fun H locs hB hS => ?_)
  obtain ⟨rfl, rfl⟩ := hs_ri hf
  exact hs_vret hx hb hr hlk hB hS dJxc12de_init_da8c8_9
end SJxc12de_init_da8c8
set_option maxRecDepth 100000 in
theorem ctJxc12de_init_da8c8 (l : Launch) (fu : Nat) (σ : hs_T) (o : Nat) : hs_C0 hs_tvv l yJxc12de_init_da8c8 wsJxc12de_init_da8c8 rmJxc12de_init_da8c8 (fun ad => [.ref (ad o)]) σ (fJxc12de_init_da8c8 fu σ o) := by
  intro X ad sz r τ hf
  refine hs_enter (cc := cJxc12de_init_da8c8) (maxL := 1) (ret := none) (by decide) rfl (Nat.le_of_ble_eq_true rfl) ?_
  intro p e s m below meth c ls C hl hem hB hS hsz
  exact wJxc12de_init_da8c8_e fu C hem σ o hf hB hS hl
/-! java/util/ArrayList.<init>()V -/
abbrev rmJx4a65c_init_da8c8 : Room := { frames := 3, cells := 0, slots := 0, locals := 52 }
theorem inJx4a65c_init_da8c8_Jx4a65c : ∀ w ∈ wsJx4a65c0, w ∈ wsJx4a65c_init_da8c8 := fun _ h => List.mem_cons_of_mem _ (List.mem_append_right _ h)
theorem lkJx4a65c_init_da8c8_0 : Cond.initialized RJxc12de ∈ wsJx4a65c_init_da8c8 := by decide +kernel
theorem lkJx4a65c_init_da8c8_1 : Cond.methodLink RJx4a65c 1 yJxc12de_init_da8c8 ∈ wsJx4a65c_init_da8c8 := by decide +kernel
theorem lkJx4a65c_init_da8c8_2 : Cond.instanceMethod yJxc12de_init_da8c8 ∈ wsJx4a65c_init_da8c8 := by decide +kernel
theorem lkJx4a65c_init_da8c8_3 : Cond.fieldLink RJx4a65c 39 "java/util/ArrayList" "DEFAULTCAPACITY_EMPTY_ELEMENTDATA" "[Ljava/lang/Object;" ∈ wsJx4a65c_init_da8c8 := by decide +kernel
theorem lkJx4a65c_init_da8c8_4 : Cond.fieldLink RJx4a65c 9 "java/util/ArrayList" "elementData" "[Ljava/lang/Object;" ∈ wsJx4a65c_init_da8c8 := by decide +kernel
def fJx4a65c_init_da8c8 (fu : Nat) (σ : hs_T) (o : Nat) : Option (Unit × hs_T) :=
 (hs_ck σ 1 o).bind fun _ =>
 hs_b2 (fJxc12de_init_da8c8 fu σ o) fun _ σ2 =>
 (hs_pR σ2 1 o 1 (some hs_em)).bind fun σ5 =>
 some ((), σ5)
section SJx4a65c_init_da8c8
variable {p : Program} {l : Launch} {e : Env} {s : State} {m : MethodId} {args : Array Value} {below : List Frame} {meth : Method} {c : Code} {X : hs_X} {ad : Nat → Nat} {A : Nat → Prop} {r : Unit} {τ : hs_T}
set_option maxRecDepth 100000 in
set_option maxHeartbeats 4000000 in
theorem wJx4a65c_init_da8c8_e (fu : Nat) (C : hs_Cx p s m args meth c X A yJx4a65c_init_da8c8 cJx4a65c_init_da8c8 1 none wsJx4a65c_init_da8c8) (hem : ad hs_em = X.2.2.1.2.2.2) {H : Heap} {locs : List Loc} {ls : Array Slot} (σ : hs_T) (o : Nat) (hf : fJx4a65c_init_da8c8 fu σ o = some (r, τ)) (hB : hs_H X.1 X.2.1 ad A σ H) (hS : va_S A s.heap H locs) (hl : lv_has ls 1 [(0, .ref (ad o))]) : W p l e rmJx4a65c_init_da8c8 s m args below meth c H locs 0 0 (MQ below (hs_Q0 hs_tvv X ad A r τ) args s 0 0 A) (F0 m 0 ls []) := by
  obtain ⟨hx, hb, hml, hr, hts, hown, hlk, hnm, hV, hA0, hA⟩ := id C
  have hown : s.vm.findClass RJx4a65c = some m.cls := hown
  have hK := hV.1
  have hNw := hV.2.1
  unfold fJx4a65c_init_da8c8 at hf
  refine lv_aload_n hx hb dJx4a65c_init_da8c8_0 rfl (lv_at hl 0 rfl) ?_
  obtain ⟨_, h3, hf⟩ := hs_bi hf
  obtain ⟨_, σ2, h1, hf⟩ := hs_b2i hf
  refine hs_call0 (va_runI (As := []) (rest := []) ⟨hx, hb, hml, hown, hts⟩ (ctJxc12de_init_da8c8 l fu σ o X ad H.size _ _ h1) (cwI 0 hts gJx4a65c_init_da8c8_Jxc12de_init_da8c8 rfl rfl rfl (hts _ lkJx4a65c_init_da8c8_0) (hts _ lkJx4a65c_init_da8c8_1) (hts _ lkJx4a65c_init_da8c8_2) rfl (by decide +kernel) ⟨Nat.le_of_ble_eq_true rfl, Nat.le_of_ble_eq_true rfl⟩) (hs_pre hV hB hS hA0 hA hem) rfl rfl hl.1 rfl (lv_room (Nat.le_of_ble_eq_true rfl)) dJx4a65c_init_da8c8_1 ⟨Nat.le_of_ble_eq_true rfl, Nat.le_of_ble_eq_true rfl⟩) hB hS hA rfl (fun H locs hB hS => ?_)
  refine lv_aload_n hx hb dJx4a65c_init_da8c8_4 rfl (lv_at hl 0 rfl) ?_
  refine va_gets hx hb (hV.2.2.2.2.2.2.2.2.1.narrow hA0) hS hown (hts _ lkJx4a65c_init_da8c8_3) (fun _ h9 => h9) dJx4a65c_init_da8c8_5 ?_
  refine W.eq (g2 := F0 m 8 ls [.ref (ad hs_em), .ref (ad o)]) (by rw [hem] <;> rfl) ?_
  obtain ⟨σ5, h4, hf⟩ := hs_bi hf
  refine x_putRs hx hb hts inJx4a65c_init_da8c8_Jx4a65c tyJx4a65c_ok nmJx4a65c hown hK hB hS (by decide) rfl (k := 1) (by decide) rfl h4 (hts _ lkJx4a65c_init_da8c8_4) (fun _ h9 => h9) rfl (ty := .array (.object "java/lang/Object")) (by decide +kernel) rfl rfl dJx4a65c_init_da8c8_8 (fun H locs hB hS => ?_)
  obtain ⟨rfl, rfl⟩ := hs_ri hf
  exact hs_vret hx hb hr hlk hB hS dJx4a65c_init_da8c8_11
end SJx4a65c_init_da8c8
set_option maxRecDepth 100000 in
theorem ctJx4a65c_init_da8c8 (l : Launch) (fu : Nat) (σ : hs_T) (o : Nat) : hs_C0 hs_tvv l yJx4a65c_init_da8c8 wsJx4a65c_init_da8c8 rmJx4a65c_init_da8c8 (fun ad => [.ref (ad o)]) σ (fJx4a65c_init_da8c8 fu σ o) := by
  intro X ad sz r τ hf
  refine hs_enter (cc := cJx4a65c_init_da8c8) (maxL := 1) (ret := none) (by decide) rfl (Nat.le_of_ble_eq_true rfl) ?_
  intro p e s m below meth c ls C hl hem hB hS hsz
  exact wJx4a65c_init_da8c8_e fu C hem σ o hf hB hS hl
/-! jdk/internal/util/ArraysSupport.newLength(III)I -/
abbrev rmJ8_newLength_cabcc : Room := { frames := 1, cells := 0, slots := 0, locals := 14 }
theorem lkJ8_newLength_cabcc_0 : Cond.methodLink RJ8 194 Lib.Math.max.name ∈ wsJ8_newLength_cabcc := by decide +kernel
theorem lkJ8_newLength_cabcc_1 : Cond.static Lib.Math.max.name ∈ wsJ8_newLength_cabcc := by decide +kernel
theorem lkJ8_newLength_cabcc_2 : Cond.initialized "java/lang/Math" ∈ wsJ8_newLength_cabcc := by decide +kernel
theorem lkJ8_newLength_cabcc_3 : Cond.code Lib.Math.max.name Lib.Math.max.code 2 (some .int) ∈ wsJ8_newLength_cabcc := by decide +kernel
theorem lkJ8_newLength_cabcc_4 : Cond.constant RJ8 200 (2147483639) ∈ wsJ8_newLength_cabcc := by decide +kernel
def fJ8_newLength_cabcc_21 (fu : Nat)  (σ : hs_T) (x0 : Int32) (x1 : Int32) : Option (Int32 × hs_T) :=
 none
def fJ8_newLength_cabcc (fu : Nat) (σ : hs_T) (a1 : Int32) (a2 : Int32) (a3 : Int32) : Option (Int32 × hs_T) :=
 if (a1 + (if a2 < a3 then a3 else a2)) ≤ 0 then
 (fJ8_newLength_cabcc_21 fu σ a1 a2)
 else
 (if 2147483639 < (a1 + (if a2 < a3 then a3 else a2)) then
 (fJ8_newLength_cabcc_21 fu σ a1 a2)
 else
 (some ((a1 + (if a2 < a3 then a3 else a2)), σ)))
section SJ8_newLength_cabcc
variable {p : Program} {l : Launch} {e : Env} {s : State} {m : MethodId} {args : Array Value} {below : List Frame} {meth : Method} {c : Code} {X : hs_X} {ad : Nat → Nat} {A : Nat → Prop} {r : Int32} {τ : hs_T}
set_option maxRecDepth 100000 in
set_option maxHeartbeats 4000000 in
theorem wJ8_newLength_cabcc_21 (fu : Nat) (C : hs_Cx p s m args meth c X A yJ8_newLength_cabcc cJ8_newLength_cabcc 4 (some .int) wsJ8_newLength_cabcc) (hem : ad hs_em = X.2.2.1.2.2.2)  {H : Heap} {locs : List Loc} {ls : Array Slot} (σ : hs_T) (x0 : Int32) (x1 : Int32) (hf : fJ8_newLength_cabcc_21 fu  σ x0 x1 = some (r, τ)) (hB : hs_H X.1 X.2.1 ad A σ H) (hS : va_S A s.heap H locs) (hl : lv_has ls 4 [(0, .int x0), (1, .int x1)]) : W p l e rmJ8_newLength_cabcc s m args below meth c H locs 0 0 (MQ below (hs_Q0 hs_tvi X ad A r τ) args s 0 0 A) (F0 m 21 ls []) := by
  obtain ⟨hx, hb, hml, hr, hts, hown, hlk, hnm, hV, hA0, hA⟩ := id C
  have hown : s.vm.findClass RJ8 = some m.cls := hown
  have hK := hV.1
  have hNw := hV.2.1
  unfold fJ8_newLength_cabcc_21 at hf
  refine lv_iload_n hx hb dJ8_newLength_cabcc_21 rfl (lv_at hl 0 rfl) ?_
  refine lv_iload_n hx hb dJ8_newLength_cabcc_22 rfl (lv_at hl 1 rfl) ?_
  cases hf
set_option maxRecDepth 100000 in
set_option maxHeartbeats 4000000 in
theorem wJ8_newLength_cabcc_e (fu : Nat) (C : hs_Cx p s m args meth c X A yJ8_newLength_cabcc cJ8_newLength_cabcc 4 (some .int) wsJ8_newLength_cabcc) (hem : ad hs_em = X.2.2.1.2.2.2) {H : Heap} {locs : List Loc} {ls : Array Slot} (σ : hs_T) (a1 : Int32) (a2 : Int32) (a3 : Int32) (hf : fJ8_newLength_cabcc fu σ a1 a2 a3 = some (r, τ)) (hB : hs_H X.1 X.2.1 ad A σ H) (hS : va_S A s.heap H locs) (hl : lv_has ls 4 [(0, .int a1), (1, .int a2), (2, .int a3)]) : W p l e rmJ8_newLength_cabcc s m args below meth c H locs 0 0 (MQ below (hs_Q0 hs_tvi X ad A r τ) args s 0 0 A) (F0 m 0 ls []) := by
  obtain ⟨hx, hb, hml, hr, hts, hown, hlk, hnm, hV, hA0, hA⟩ := id C
  have hown : s.vm.findClass RJ8 = some m.cls := hown
  have hK := hV.1
  have hNw := hV.2.1
  unfold fJ8_newLength_cabcc at hf
  refine lv_iload_n hx hb dJ8_newLength_cabcc_0 rfl (lv_at hl 0 rfl) ?_
  refine lv_iload_n hx hb dJ8_newLength_cabcc_1 rfl (lv_at hl 1 rfl) ?_
  refine lv_iload_n hx hb dJ8_newLength_cabcc_2 rfl (lv_at hl 2 rfl) ?_
  refine va_mmax hx hb (hml.trans hl.1.symm) hown (hts _ lkJ8_newLength_cabcc_0) (hts _ lkJ8_newLength_cabcc_1) (hts _ lkJ8_newLength_cabcc_2) (hts _ lkJ8_newLength_cabcc_3) (Nat.le_of_ble_eq_true rfl) (Nat.le_of_ble_eq_true rfl) (Nat.le_of_ble_eq_true rfl) (Nat.le_of_ble_eq_true rfl) dJ8_newLength_cabcc_3 ?_
  refine lv_iadd hx hb dJ8_newLength_cabcc_6 ?_
  refine lv_istore_n (lv' := [(3, .int (a1 + (if a2 < a3 then a3 else a2))), (0, .int a1), (1, .int a2), (2, .int a3)]) hx hb dJ8_newLength_cabcc_7 rfl hl (by decide) rfl (fun ls hl => ?_)
  refine lv_iconst (v := 0) hx hb dJ8_newLength_cabcc_8 (by decide) ?_
  refine lv_iload_n hx hb dJ8_newLength_cabcc_9 rfl (lv_at hl 0 rfl) ?_
  refine lv_icmp_ge (tgt := 21) hx hb dJ8_newLength_cabcc_10 (by decide) (fun h1 => ?_) (fun h1 => ?_)
  · have hf := hs_tt h1 hf
    exact wJ8_newLength_cabcc_21 fu C hem σ a1 a2 hf hB hS (lv_sub hl [1, 2] rfl)
  · have hf := hs_ff h1 hf
    refine lv_iload_n hx hb dJ8_newLength_cabcc_13 rfl (lv_at hl 0 rfl) ?_
    refine lv_ldc hx hb hown (hts _ lkJ8_newLength_cabcc_4) dJ8_newLength_cabcc_14 ?_
    refine lv_icmp_gt (tgt := 21) hx hb dJ8_newLength_cabcc_16 (by decide) (fun h2 => ?_) (fun h2 => ?_)
    · have hf := hs_tt h2 hf
      exact wJ8_newLength_cabcc_21 fu C hem σ a1 a2 hf hB hS (lv_sub hl [1, 2] rfl)
    · have hf := hs_ff h2 hf
      refine lv_iload_n hx hb dJ8_newLength_cabcc_19 rfl (lv_at hl 0 rfl) ?_
      obtain ⟨rfl, rfl⟩ := hs_ri hf
      exact hs_iret hx hb hr hlk hB hS dJ8_newLength_cabcc_20
end SJ8_newLength_cabcc
set_option maxRecDepth 100000 in
theorem ctJ8_newLength_cabcc (l : Launch) (fu : Nat) (σ : hs_T) (a1 : Int32) (a2 : Int32) (a3 : Int32) : hs_C0 hs_tvi l yJ8_newLength_cabcc wsJ8_newLength_cabcc rmJ8_newLength_cabcc (fun ad => [.int a1, .int a2, .int a3]) σ (fJ8_newLength_cabcc fu σ a1 a2 a3) := by
  intro X ad sz r τ hf
  refine hs_enter (cc := cJ8_newLength_cabcc) (maxL := 4) (ret := (some .int)) (by decide) rfl (Nat.le_of_ble_eq_true rfl) ?_
  intro p e s m below meth c ls C hl hem hB hS hsz
  exact wJ8_newLength_cabcc_e fu C hem σ a1 a2 a3 hf hB hS hl
