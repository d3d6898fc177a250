/-! Cells that are made -/
def hs_z2 {α : Type} (f : Nat → Nat → α) (n : Nat) (v : α) : Nat → Nat → α := fun k n' => if n' = n then v else f k n'
def hs_z1 {α : Type} (f : Nat → Nat → α) (n : Nat) (v : α) : Nat → Nat → α := fun n' i => if n' = n then v else f n' i
def hs_mkO (σ : hs_T) (kd : Nat) : hs_T := ((hs_N σ + 1, va_up (hs_K σ) (hs_N σ) kd, hs_L σ), hs_z2 (hs_F σ) (hs_N σ) 0, hs_z2 (hs_G σ) (hs_N σ) none, hs_R σ, hs_O σ)
def hs_mkA (σ : hs_T) (kd len : Nat) : hs_T := ((hs_N σ + 1, va_up (hs_K σ) (hs_N σ) kd, va_up (hs_L σ) (hs_N σ) len), hs_F σ, hs_G σ, hs_z1 (hs_R σ) (hs_N σ) 0, hs_z1 (hs_O σ) (hs_N σ) none)
def hs_nO (σ : hs_T) (kd : Nat) : Option hs_T := if hs_N σ < 1000000000 then some (hs_mkO σ kd) else none
/-- a row of n places, at most 65536 -/
def hs_nA (σ : hs_T) (kd : Nat) (n : Int32) (mx : Nat) : Option hs_T := if hs_N σ < 1000000000 ∧ ¬ n < 0 ∧ n.toNatClampNeg ≤ mx then some (hs_mkA σ kd n.toNatClampNeg) else none
def hs_lv (σ : hs_T) (L : List Nat) : Option Unit := if L.all (fun n => decide (n < hs_N σ)) = true then some () else none
def hs_le (a b : Nat) : Option Unit := if a ≤ b then some () else none
theorem hs_le_i {a b : Nat} {u : Unit} (h : hs_le a b = some u) : a ≤ b := (hs_si h).1
theorem hs_lv_i {σ : hs_T} {L : List Nat} {u : Unit} (h : hs_lv σ L = some u) : ∀ n ∈ L, n < hs_N σ := fun n hn => of_decide_eq_true (List.all_eq_true.mp (hs_si h).1 n hn)
theorem hs_mapag {ad ad' : Nat → Nat} {r : Option Nat} (h : ∀ m, r = some m → ad' m = ad m) : r.map ad' = r.map ad := by
  cases r with
  | none => rfl
  | some m => exact congrArg some (h m rfl)
def hs_Ag (N : Nat) (ad' ad : Nat → Nat) : Prop := ∀ n, n < N ∨ n = hs_em → ad' n = ad n
theorem hs_agt {N0 N : Nat} {a0 a1 a2 : Nat → Nat} (h : hs_Ag N0 a1 a0) (hN : N0 ≤ N) (h2 : hs_Ag N a2 a1) : hs_Ag N0 a2 a0 := fun n hn => (h2 n (hn.imp (fun z => Nat.lt_of_lt_of_le z hN) id)).trans (h n hn)
theorem hs_e_ag {E : hs_E} {ad ad' : Nat → Nat} {σ σ' : hs_T} {n : Nat} (hw : hs_wf σ) (ha : hs_Ag (hs_N σ) ad' ad) (hK : hs_K σ' n = hs_K σ n) (hL : hs_L σ' n = hs_L σ n) (hF : ∀ k, hs_F σ' k n = hs_F σ k n) (hG : ∀ k, hs_G σ' k n = hs_G σ k n) (hR : hs_R σ' n = hs_R σ n) (hO : hs_O σ' n = hs_O σ n) : hs_e E ad' σ' n = hs_e E ad σ n := by
  have e1 : ∀ k, (hs_G σ k n).map ad' = (hs_G σ k n).map ad := fun k => hs_mapag (fun m hm => ha m (hw.1 k n m hm))
  have e2 : ∀ i, (hs_O σ n i).map ad' = (hs_O σ n i).map ad := fun i => hs_mapag (fun m hm => ha m (hw.2 n i m hm))
  unfold hs_e hs_fs hs_v
  simp only [hK, hL, hF, hG, hR, hO, e1, e2]
theorem hs_ag_up {ad : Nat → Nat} {N q : Nat} (hN : N < 1000000000) : hs_Ag N (va_up ad N q) ad := by
  intro n hn
  unfold va_up
  rw [if_neg]
  rcases hn with h | h
  · omega
  · rw [h]; unfold hs_em; omega
theorem hs_up_at {α : Type} {f : Nat → α} {k : Nat} {v : α} : va_up f k v k = v := if_pos rfl
theorem hs_up_no {α : Type} {f : Nat → α} {k j : Nat} {v : α} (h : j ≠ k) : va_up f k v j = f j := if_neg h
theorem hs_ws_mkO {E : hs_E} {ad : Nat → Nat} {σ : hs_T} {kd q : Nat} {fs : List Value} (hw : hs_wf σ) (hN : hs_N σ < 1000000000) (hkd : kd < 11) (hfs : hs_fs (va_up ad (hs_N σ) q) (hs_mkO σ kd) kd (hs_N σ) = fs) : hs_ws E (va_up ad (hs_N σ) q) (hs_mkO σ kd) = hs_ws E ad σ ++ [(q, .inr (kd - 1, fs))] := by
  have hn : hs_N (hs_mkO σ kd) = hs_N σ + 1 := rfl
  unfold hs_ws
  rw [hn, List.range_succ, List.map_append]
  congr 1
  · apply List.map_congr_left
    intro n hn
    have hlt := List.mem_range.mp hn
    have hne : n ≠ hs_N σ := by omega
    rw [hs_up_no hne, hs_e_ag (σ := σ) (σ' := hs_mkO σ kd) hw (hs_ag_up hN) (hs_up_no hne) rfl (fun k => if_neg hne) (fun k => if_neg hne) rfl rfl]
  · rw [List.map_singleton, hs_up_at, hs_e_o (σ := hs_mkO σ kd) (kd := kd) hs_up_at hkd, hfs]
theorem hs_wf_mkO {σ : hs_T} {kd : Nat} (hw : hs_wf σ) : hs_wf (hs_mkO σ kd) := by
  refine ⟨fun k n m hm => ?_, fun n i m hm => ?_⟩
  · by_cases hc : n = hs_N σ
    · have e : hs_G (hs_mkO σ kd) k n = none := if_pos hc
      rw [e] at hm
      cases hm
    · have e : hs_G (hs_mkO σ kd) k n = hs_G σ k n := if_neg hc
      rw [e] at hm
      rcases hw.1 k n m hm with h | h
      · exact Or.inl (Nat.lt_succ_of_lt h)
      · exact Or.inr h
  · rcases hw.2 n i m hm with h | h
    · exact Or.inl (Nat.lt_succ_of_lt h)
    · exact Or.inr h
theorem hs_wf_mkA {σ : hs_T} {kd len : Nat} (hw : hs_wf σ) : hs_wf (hs_mkA σ kd len) := by
  refine ⟨fun k n m hm => ?_, fun n i m hm => ?_⟩
  · rcases hw.1 k n m hm with h | h
    · exact Or.inl (Nat.lt_succ_of_lt h)
    · exact Or.inr h
  · by_cases hc : n = hs_N σ
    · have e : hs_O (hs_mkA σ kd len) n i = none := by
        show hs_z1 (hs_O σ) (hs_N σ) none n i = none
        unfold hs_z1
        rw [if_pos hc]
      rw [e] at hm
      cases hm
    · have e : hs_O (hs_mkA σ kd len) n i = hs_O σ n i := by
        show hs_z1 (hs_O σ) (hs_N σ) none n i = _
        unfold hs_z1
        rw [if_neg hc]
      rw [e] at hm
      rcases hw.2 n i m hm with h | h
      · exact Or.inl (Nat.lt_succ_of_lt h)
      · exact Or.inr h
theorem hs_z1_no {α : Type} {f : Nat → Nat → α} {n j : Nat} {v : α} (h : j ≠ n) : hs_z1 f n v j = f j := by
  funext i
  exact if_neg h
theorem hs_z1_at {α : Type} {f : Nat → Nat → α} {n : Nat} {v : α} : hs_z1 f n v n = fun _ => v := by
  funext i
  exact if_pos rfl
theorem hs_ws_mkA {E : hs_E} {ad : Nat → Nat} {σ : hs_T} {kd len q : Nat} {en : va_E} (hw : hs_wf σ) (hN : hs_N σ < 1000000000) (he : hs_e E (va_up ad (hs_N σ) q) (hs_mkA σ kd len) (hs_N σ) = en) : hs_ws E (va_up ad (hs_N σ) q) (hs_mkA σ kd len) = hs_ws E ad σ ++ [(q, en)] := by
  have hn : hs_N (hs_mkA σ kd len) = hs_N σ + 1 := rfl
  unfold hs_ws
  rw [hn, List.range_succ, List.map_append]
  congr 1
  · apply List.map_congr_left
    intro n hn
    have hlt := List.mem_range.mp hn
    have hne : n ≠ hs_N σ := by omega
    rw [hs_up_no hne, hs_e_ag (σ := σ) (σ' := hs_mkA σ kd len) hw (hs_ag_up hN) (hs_up_no hne) (hs_up_no hne) (fun _ => rfl) (fun _ => rfl) (hs_z1_no hne) (hs_z1_no hne)]
  · rw [List.map_singleton, hs_up_at, he]
section HsMake
variable {p : Program} {l : Launch} {e : Env} {R : Room} {s : State} {m : MethodId} {args : Array Value} {below : List Frame} {meth : Method} {c : Code} {H H0 : Heap} {locs : List Loc} {cells slots : Nat} {Q : State → Prop} {cc : ByteArray} {pc : Nat} {ls : Array Slot} {rest : List Value} {D : va_G} {E : hs_E} {ad : Nat → Nat} {A : Nat → Prop} {σ σ' : hs_T} {X : hs_X}
variable {own ref C host : String} {T : u_T} {N index : Nat} {Ts : List Cond} {kd n : Nat}
theorem hs_new (hx : p.tables.exec = Jvm.exec) (hb : c.code = cc) (hts : ∀ w ∈ Ts, w.before args s = true) (hin : ∀ w ∈ u_ws C T N, w ∈ Ts) {ty0 : Nat → FieldType} (hty : ∀ k, k < N → parseFieldDescriptor (T k).2.2.1 = some (ty0 k)) (hown : s.vm.findClass own = some m.cls) (hcl : (Cond.classLink own index C).before args s = true) (hinst : (Cond.instantiable C N).before args s = true) (hini : (Cond.initialized C).before args s = true)
    (hK : va_K D vwCl (hs_ty E) s) (hB : hs_H D E ad A σ H) (hS : va_S A H0 H locs) (hA : ∀ q, H0.size ≤ q → A q) (hkd : kd < 11) (hc : vwCl[kd - 1]? = some (C, T, N)) (hfs : ∀ (ad' : Nat → Nat) (j : Nat), j < N → defaultValue (ty0 j) = vp_V (hs_fs ad' (hs_mkO σ kd) kd (hs_N σ)) j) (hg : hs_nO σ kd = some σ') (hcells : cells + 1 ≤ R.cells) (hslots : slots + N ≤ R.slots) (hdg : decode cc pc = .ok (.new index, 3))
    (kk : ∀ (ad' : Nat → Nat) (H1 : Heap), hs_Ag (hs_N σ) ad' ad → hs_H D E ad' A σ' H1 → va_S A H0 H1 locs → W p l e R s m args below meth c H1 locs (cells + 1) (slots + N) Q (F0 m (pc + 3) ls (.ref (ad' (hs_N σ)) :: rest))) : W p l e R s m args below meth c H locs cells slots Q (F0 m pc ls rest) := by
  obtain ⟨hN, rfl⟩ := hs_si hg
  refine va_new hx hb hts hin ty0 hty hown hcl hinst hini hK hB.1 hB.2.1 hS hA hc (hfs (fun _ => 0)) hcells hslots hdg (fun q H1 h1 h2 h3 => ?_)
  have e0 : hs_fs (va_up ad (hs_N σ) q) (hs_mkO σ kd) kd (hs_N σ) = hs_fs (fun _ => 0) (hs_mkO σ kd) kd (hs_N σ) := by
    unfold hs_fs hs_v
    have e1 : ∀ k, hs_G (hs_mkO σ kd) k (hs_N σ) = none := fun k => if_pos rfl
    simp only [e1, Option.map_none]
  rw [← hs_ws_mkO (E := E) hB.2.2 hN hkd e0] at h1 h2
  have hk := kk (va_up ad (hs_N σ) q) H1 (hs_ag_up hN) ⟨h1, h2, hs_wf_mkO hB.2.2⟩ h3
  rw [hs_up_at] at hk
  exact hk
theorem hs_newI (hx : p.tables.exec = Jvm.exec) (hb : c.code = cc) (harr : (Cond.arrayClass .int).before args s = true) (hK : va_K D vwCl (hs_ty E) s) (hB : hs_H D E ad A σ H) (hS : va_S A H0 H locs) (hA : ∀ q, H0.size ≤ q → A q) {k : Int32} {mx : Nat} (hmx : mx ≤ 65536) (hg : hs_nA σ 11 k mx = some σ') (hcells : cells + 1 ≤ R.cells) (hslots : slots + mx ≤ R.slots) (hdg : decode cc pc = .ok (.newarray .int, 2))
    (kk : ∀ (ad' : Nat → Nat) (H1 : Heap), hs_Ag (hs_N σ) ad' ad → hs_H D E ad' A σ' H1 → va_S A H0 H1 locs → W p l e R s m args below meth c H1 locs (cells + 1) (slots + mx) Q (F0 m (pc + 2) ls (.ref (ad' (hs_N σ)) :: rest))) : W p l e R s m args below meth c H locs cells slots Q (F0 m pc ls (.int k :: rest)) := by
  obtain ⟨⟨hN, hk0, hkm⟩, rfl⟩ := hs_si hg
  refine va_newa (atype := .int) (ty := .int) (a0 := (k.toNatClampNeg, .inl (fun _ => 0))) hx hb harr rfl hK hB.1 hB.2.1 hS hA (fun cA => rfl) hk0 rfl (by show k.toNatClampNeg * 4 ≤ _; omega) hcells (by omega) hdg (fun q cA H1 h0 h1 h2 h3 => ?_)
  have hcA : cA = E.1 := Option.some.inj ((h0.2 3 _ rfl).2.symm.trans (hK.2 0 _ rfl).2)
  subst hcA
  rw [← hs_ws_mkA (E := E) (kd := 11) hB.2.2 hN (by rw [hs_e_i (σ := hs_mkA σ 11 k.toNatClampNeg) hs_up_at]; show Sum.inl (E.1, va_up (hs_L σ) (hs_N σ) k.toNatClampNeg (hs_N σ), Sum.inl (hs_z1 (hs_R σ) (hs_N σ) 0 (hs_N σ))) = _; rw [hs_up_at, hs_z1_at])] at h1 h2
  have hk := kk (va_up ad (hs_N σ) q) H1 (hs_ag_up hN) ⟨h1, h2, hs_wf_mkA hB.2.2⟩ h3
  rw [hs_up_at] at hk
  exact W.widen (Nat.le_refl _) (Nat.add_le_add_left hkm _) hk
theorem hs_newZ (hx : p.tables.exec = Jvm.exec) (hb : c.code = cc) (harr : (Cond.arrayClass .boolean).before args s = true) (hK : va_K D vwCl (hs_ty E) s) (hB : hs_H D E ad A σ H) (hS : va_S A H0 H locs) (hA : ∀ q, H0.size ≤ q → A q) {k : Int32} {mx : Nat} (hmx : mx ≤ 65536) (hg : hs_nA σ 12 k mx = some σ') (hcells : cells + 1 ≤ R.cells) (hslots : slots + mx ≤ R.slots) (hdg : decode cc pc = .ok (.newarray .boolean, 2))
    (kk : ∀ (ad' : Nat → Nat) (H1 : Heap), hs_Ag (hs_N σ) ad' ad → hs_H D E ad' A σ' H1 → va_S A H0 H1 locs → W p l e R s m args below meth c H1 locs (cells + 1) (slots + mx) Q (F0 m (pc + 2) ls (.ref (ad' (hs_N σ)) :: rest))) : W p l e R s m args below meth c H locs cells slots Q (F0 m pc ls (.int k :: rest)) := by
  obtain ⟨⟨hN, hk0, hkm⟩, rfl⟩ := hs_si hg
  refine va_newa (atype := .boolean) (ty := .boolean) (a0 := (k.toNatClampNeg, .inl (fun _ => 0))) hx hb harr rfl hK hB.1 hB.2.1 hS hA (fun cA => rfl) hk0 rfl (by show k.toNatClampNeg * 1 ≤ _; omega) hcells (by omega) hdg (fun q cA H1 h0 h1 h2 h3 => ?_)
  have hcA : cA = E.2.1 := Option.some.inj ((h0.2 3 _ rfl).2.symm.trans (hK.2 1 _ rfl).2)
  subst hcA
  rw [← hs_ws_mkA (E := E) (kd := 12) hB.2.2 hN (by rw [hs_e_z (σ := hs_mkA σ 12 k.toNatClampNeg) hs_up_at]; show Sum.inl (E.2.1, va_up (hs_L σ) (hs_N σ) k.toNatClampNeg (hs_N σ), Sum.inl (hs_z1 (hs_R σ) (hs_N σ) 0 (hs_N σ))) = _; rw [hs_up_at, hs_z1_at])] at h1 h2
  have hk := kk (va_up ad (hs_N σ) q) H1 (hs_ag_up hN) ⟨h1, h2, hs_wf_mkA hB.2.2⟩ h3
  rw [hs_up_at] at hk
  exact W.widen (Nat.le_refl _) (Nat.add_le_add_left hkm _) hk
theorem hs_iret1 {ad0 : Nat → Nat} {N0 : Nat} (hx : p.tables.exec = Jvm.exec) (hb : c.code = cc) (hr : meth.sig.returnType = some .int) (hlk : meth.locks = false) {r : Int32} (hag : hs_Ag N0 ad ad0) (hB : hs_H X.1 X.2.1 ad A σ H) (hS : va_S A s.heap H locs) (hdg : decode cc pc = .ok (.ireturn, 1)) : W p l e R s m args below meth c H locs cells slots (MQ below (hs_Q1 hs_tvi X ad0 N0 A r σ) args s cells slots A) (F0 m pc ls [.int r]) :=
  W.iret hx hb hr (fun t ht hW => ⟨⟨ad, hag, rfl, by rw [ht]; exact hB⟩, hS.F ht⟩) hS.2.2 hdg hlk
theorem hs_vret1 {ad0 : Nat → Nat} {N0 : Nat} (hx : p.tables.exec = Jvm.exec) (hb : c.code = cc) (hr : meth.sig.returnType = none) (hlk : meth.locks = false) {r : Unit} (hag : hs_Ag N0 ad ad0) (hB : hs_H X.1 X.2.1 ad A σ H) (hS : va_S A s.heap H locs) (hdg : decode cc pc = .ok (.return_, 1)) : W p l e R s m args below meth c H locs cells slots (MQ below (hs_Q1 hs_tvv X ad0 N0 A r σ) args s cells slots A) (F0 m pc ls []) :=
  W.vret hx hb hr (fun t ht hW => ⟨⟨ad, hag, rfl, by rw [ht]; exact hB⟩, hS.F ht⟩) hS.2.2 hdg hlk
theorem hs_zret1 {ad0 : Nat → Nat} {N0 : Nat} (hx : p.tables.exec = Jvm.exec) (hb : c.code = cc) (hr : meth.sig.returnType = some .boolean) (hlk : meth.locks = false) {r : Int32} (hn : r &&& 1 = r) (hag : hs_Ag N0 ad ad0) (hB : hs_H X.1 X.2.1 ad A σ H) (hS : va_S A s.heap H locs) (hdg : decode cc pc = .ok (.ireturn, 1)) : W p l e R s m args below meth c H locs cells slots (MQ below (hs_Q1 hs_tvi X ad0 N0 A r σ) args s cells slots A) (F0 m pc ls [.int r]) :=
  W.zret hx hb hr (congrArg Value.int hn) (fun t ht hW => ⟨⟨ad, hag, rfl, by rw [ht]; exact hB⟩, hS.F ht⟩) hS.2.2 hdg hlk
theorem hs_aret1 {ad0 : Nat → Nat} {N0 : Nat} (hx : p.tables.exec = Jvm.exec) (hb : c.code = cc) {rt : FieldType} (hr : meth.sig.returnType = some rt) (hrt : (∃ n, rt = .object n) ∨ ∃ t, rt = .array t) (hlk : meth.locks = false) (r : Option Nat) {v : Value} (hv : v = va_rf (r.map ad)) (hag : hs_Ag N0 ad ad0) (hB : hs_H X.1 X.2.1 ad A σ H) (hS : va_S A s.heap H locs) (hdg : decode cc pc = .ok (.areturn, 1)) : W p l e R s m args below meth c H locs cells slots (MQ below (hs_Q1 hs_tvr X ad0 N0 A r σ) args s cells slots A) (F0 m pc ls [v]) := by
  subst hv
  refine W.aret hx hb hr hrt ?_ (fun t ht hW => ⟨⟨ad, hag, rfl, by rw [ht]; exact hB⟩, hS.F ht⟩) hS.2.2 hdg hlk
  cases r with
  | none => exact Or.inl rfl
  | some n => exact Or.inr ⟨_, rfl⟩
end HsMake
theorem hs_pI_N {σ σ' : hs_T} {kd n k : Nat} {v : Int32} (h : hs_pI σ kd n k v = some σ') : hs_N σ' = hs_N σ := by
  obtain ⟨-, rfl⟩ := hs_si h
  rfl
theorem hs_pR_N {σ σ' : hs_T} {kd n k : Nat} {v : Option Nat} (h : hs_pR σ kd n k v = some σ') : hs_N σ' = hs_N σ := by
  obtain ⟨-, rfl⟩ := hs_si h
  rfl
theorem hs_st_N {σ σ' : hs_T} {kd n : Nat} {i v : Int32} (h : hs_st σ kd n i v = some σ') : hs_N σ' = hs_N σ := by
  obtain ⟨-, rfl⟩ := hs_si h
  rfl
theorem hs_cp_N {σ σ' : hs_T} {n0 n1 : Nat} {sp dp n : Int32} (h : hs_cp σ n0 sp n1 dp n = some σ') : hs_N σ' = hs_N σ := by
  obtain ⟨-, rfl⟩ := hs_si h
  rfl
theorem hs_nO_N {σ σ' : hs_T} {kd : Nat} (h : hs_nO σ kd = some σ') : hs_N σ' = hs_N σ + 1 := by
  obtain ⟨-, rfl⟩ := hs_si h
  rfl
theorem hs_nA_N {σ σ' : hs_T} {kd mx : Nat} {n : Int32} (h : hs_nA σ kd n mx = some σ') : hs_N σ' = hs_N σ + 1 := by
  obtain ⟨-, rfl⟩ := hs_si h
  rfl
