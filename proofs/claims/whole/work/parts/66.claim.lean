/-! The law's beginning: the two objects are made -/
section Begin
variable {p : Program} {l : Launch} {e : Env} {R : Room} {s : State} {m : MethodId} {args : Array Value} {below : List Frame} {meth : Method} {c : Code} {H H0 : Heap} {locs : List Loc} {cells slots : Nat} {Q : State → Prop} {cc : ByteArray} {pc : Nat} {ls : Array Slot} {rest : List Value} {D : va_G} {E : hs_E} {ad : Nat → Nat} {A : Nat → Prop} {σ : hs_T}
variable {own C : String} {T : u_T} {N index : Nat} {Ts : List Cond} {kd : Nat}
theorem wf_0 : hs_wf hs_0 := ⟨fun _ _ _ h => (by cases h), fun _ _ _ h => (by cases h)⟩
theorem mkO_G {σ : hs_T} {kd k : Nat} : hs_G (hs_mkO σ kd) k (hs_N σ) = none := if_pos rfl
/-- a new object beside a heap of ours: a heap of its own -/
theorem lw_new (hx : p.tables.exec = Jvm.exec) (hb : c.code = cc) (hts : ∀ w ∈ Ts, w.before args s = true) (hin : ∀ w ∈ u_ws C T N, w ∈ Ts) {ty0 : Nat → FieldType} (hty : ∀ k, k < N → parseFieldDescriptor (T k).2.2.1 = some (ty0 k)) (hown : s.vm.findClass own = some m.cls) (hcl : (Cond.classLink own index C).before args s = true) (hinst : (Cond.instantiable C N).before args s = true) (hini : (Cond.initialized C).before args s = true)
    (hK : va_K D vwCl (hs_ty E) s) (hB : hs_H D E ad A σ H) (hS : va_S A H0 H locs) (hA : ∀ q, H0.size ≤ q → A q) (hkd : kd < 11) (hc : vwCl[kd - 1]? = some (C, T, N)) (hfs : ∀ (ad' : Nat → Nat) (j : Nat), j < N → defaultValue (ty0 j) = vp_V (hs_fs ad' (hs_mkO hs_0 kd) kd (hs_N hs_0)) j) (hcells : cells + 1 ≤ R.cells) (hslots : slots + N ≤ R.slots) (hdg : decode cc pc = .ok (.new index, 3)) (tem : Nat)
    (kk : ∀ (q : Nat) (H1 : Heap), hs_H D E ad A σ H1 → (∀ i, i < hs_N σ → ad i ≠ q) → hs_H D E (va_up (fun _ => tem) 0 q) A (hs_mkO hs_0 kd) H1 → va_S A H0 H1 locs → W p l e R s m args below meth c H1 locs (cells + 1) (slots + N) Q (F0 m (pc + 3) ls (.ref q :: rest))) : W p l e R s m args below meth c H locs cells slots Q (F0 m pc ls rest) := by
  refine va_new hx hb hts hin ty0 hty hown hcl hinst hini hK hB.1 hB.2.1 hS hA hc (hfs (fun _ => 0)) hcells hslots hdg (fun q H1 h1 h2 h3 => ?_)
  have e0 : hs_fs (va_up (fun _ => tem) (hs_N hs_0) q) (hs_mkO hs_0 kd) kd (hs_N hs_0) = hs_fs (fun _ => 0) (hs_mkO hs_0 kd) kd (hs_N hs_0) := by
    unfold hs_fs hs_v
    have e1 : ∀ k, hs_G (hs_mkO hs_0 kd) k (hs_N hs_0) = none := fun k => mkO_G (σ := hs_0)
    simp only [e1, Option.map_none]
  have ews : hs_ws E (va_up (fun _ => tem) 0 q) (hs_mkO hs_0 kd) = [(q, .inr (kd - 1, hs_fs (fun _ => 0) (hs_mkO hs_0 kd) kd (hs_N hs_0)))] := hs_ws_mkO (E := E) (ad := fun _ => tem) (σ := hs_0) wf_0 (by decide) hkd e0
  have hle : (hs_ws E ad σ).length ≤ (hs_ws E ad σ).length := Nat.le_refl _
  have lf : ∀ (k : Nat) (w : Nat × va_E), (hs_ws E ad σ)[k]? = some w → (hs_ws E ad σ ++ [(q, .inr (kd - 1, hs_fs (fun _ => 0) (hs_mkO hs_0 kd) kd (hs_N hs_0)))])[k]? = some w := fun k w hw => by
    rw [List.getElem?_append_left (List.getElem?_eq_some_iff.mp hw).1]
    exact hw
  have rt : (hs_ws E ad σ ++ [(q, .inr (kd - 1, hs_fs (fun _ => 0) (hs_mkO hs_0 kd) kd (hs_N hs_0)))])[(hs_ws E ad σ).length]? = some (q, .inr (kd - 1, hs_fs (fun _ => 0) (hs_mkO hs_0 kd) kd (hs_N hs_0))) := by
    rw [List.getElem?_append_right (Nat.le_refl _), Nat.sub_self]
    rfl
  refine kk q H1 ⟨fun k w hw => h1 k w (lf k w hw), ⟨fun i j u w hu hw z => h2.1 i j u w (lf i u hu) (lf j w hw) z, fun k w hw => h2.2 k w (lf k w hw)⟩, hB.2.2⟩ (fun i hi z => ?_) ⟨?_, ⟨?_, ?_⟩, hs_wf_mkO wf_0⟩ h3
  · have hi2 := hs_at (E := E) (ad := ad) hi
    have := h2.1 i (hs_ws E ad σ).length _ _ (lf i _ hi2) rt z
    rw [hs_len] at this
    omega
  · rw [ews]
    intro k w hw
    have hz : k < 1 := (List.getElem?_eq_some_iff.mp hw).1
    rw [show k = 0 by omega] at hw
    cases hw
    exact h1 _ _ rt
  · rw [ews]
    intro i j u w hu hw _
    have hi : i < 1 := (List.getElem?_eq_some_iff.mp hu).1
    have hj : j < 1 := (List.getElem?_eq_some_iff.mp hw).1
    omega
  · rw [ews]
    intro k w hw
    have hz : k < 1 := (List.getElem?_eq_some_iff.mp hw).1
    rw [show k = 0 by omega] at hw
    cases hw
    exact h2.2 _ _ rt
theorem H_0 (hA : ∀ q : Nat, A q → A q) : hs_H D E ad A hs_0 H := ⟨fun k q h => (by cases h), ⟨fun i j u w h => (by cases h), fun k q h => (by cases h)⟩, wf_0⟩
end Begin
set_option maxHeartbeats 4000000 in
set_option maxRecDepth 100000 in
/-- from the entry, for every script of at most 3072 ints, the law comes to its end with true -/
theorem whole_start {p : Program} {e : Env} {s : State} {m : MethodId} {below : List Frame} {meth : Method} {c : Code} (l : Launch) {b L : Nat} {xs : Nat → Int32} (hL : L ≤ 3072) (C0 : lw_At p s m meth c b L xs) : W p l e room_1 s m #[Value.ref b] below meth c s.heap [] 0 0 (lw_Z below #[Value.ref b] s) (entryFrame m ([Value.ref b] : List Value).toArray 4) := by
  obtain ⟨hx, hb, hr, hml, hown, hts0, hX, hbl, hlocks, hgv⟩ := id C0
  have hown : s.vm.findClass RL = some m.cls := hown
  have hts : ∀ w ∈ wsL_law, w.before #[Value.ref b] s = true := fun w h => hts0 w (lw_all w h)
  obtain ⟨X, hV, hn0⟩ := lw_V hts0 hgv
  have hK := hV.1
  have hA0 : ∀ q, hs_A0 X q → hs_A0 X q := fun _ h => h
  have hA : ∀ q, s.heap.size ≤ q → hs_A0 X q := fun q h => by unfold hs_A0; rw [hn0]; exact h
  have hS : va_S (hs_A0 X) s.heap s.heap [] := va_S.rf
  have hl := lv_entry ([.ref b]) (n := 4) (Nat.le_of_ble_eq_true rfl)
  rw [lg_entry_eq]
  generalize (lg_sl ([.ref b]) ++ List.replicate (4 - (lg_sl ([.ref b])).length) Slot.unset).toArray = ls at hl ⊢
  have hl : lv_has ls 4 [(0, .ref b)] := hl
  have up0 : ∀ q : Nat, va_up (fun _ => X.2.2.1.2.2.2) 0 q 0 = q := fun q => hs_up_at
  have upE : ∀ q : Nat, va_up (fun _ => X.2.2.1.2.2.2) 0 q hs_em = X.2.2.1.2.2.2 := fun q => hs_up_no (by decide)
  -- the class's object
  refine lw_new (σ := hs_0) (ad := fun _ => X.2.2.1.2.2.2) (kd := 9) hx hb hts0 lwc_X7 tyX7_ok hown (hts0 _ lwt_c7) (hts0 _ lwt_i8) (hts0 _ lwt_n7) hK (H_0 hA0) hS hA (by decide) rfl (hs_df9 _) (Nat.le_of_ble_eq_true rfl) (Nat.le_of_ble_eq_true rfl) dL_law_0 X.2.2.1.2.2.2 (fun q1 H _ _ hB hS => ?_)
  refine lv_dup hx hb dL_law_3 rfl ?_
  have q1e := up0 q1
  have q1m := upE q1
  generalize va_up (fun _ => X.2.2.1.2.2.2) 0 q1 = ad1 at hB q1e q1m
  subst q1e
  refine hs_call1 (va_runI (As := []) (rest := [.ref (ad1 0)]) ⟨hx, hb, hml, hown, hts⟩ (ctX7_init l 1000 (hs_mkO hs_0 9) 0 X ad1 H.size _ _ x_0_is) (cwI 0 hts gL_law_X7_init rfl rfl rfl (hts0 _ lwt_n7) (hts0 _ lwt_m7) (hts0 _ lwt_j7) rfl (by decide +kernel) ⟨Nat.le_of_ble_eq_true rfl, Nat.le_of_ble_eq_true rfl⟩) (hs_pre hV hB hS hA0 hA q1m) rfl rfl hl.1 rfl (lv_room (Nat.le_of_ble_eq_true rfl)) dL_law_4 ⟨Nat.le_of_ble_eq_true rfl, Nat.le_of_ble_eq_true rfl⟩) hB hS hA (fun adx H locs had hBx hS => ?_)
  have a0 : adx 0 = ad1 0 := had 0 (Or.inl (by decide))
  have hex : adx hs_em = X.2.2.1.2.2.2 := (had hs_em (Or.inr rfl)).trans q1m
  rw [← a0]
  refine lv_astore_n (lv' := [(1, .ref (adx 0)), (0, .ref b)]) hx hb dL_law_7 rfl hl (by decide) rfl (fun ls hl => ?_)
  -- the reference's object
  refine lw_new (σ := x_0) (ad := adx) (kd := 10) hx hb hts0 lwc_X8 tyX8_ok hown (hts0 _ lwt_c8) (hts0 _ lwt_i9) (hts0 _ lwt_n8) hK hBx hS hA (by decide) rfl (hs_df10 _) (Nat.le_of_ble_eq_true rfl) (Nat.le_of_ble_eq_true rfl) dL_law_8 X.2.2.1.2.2.2 (fun q2 H hBx hne hB hS => ?_)
  refine lv_dup hx hb dL_law_11 rfl ?_
  have q2e := up0 q2
  have q2m := upE q2
  generalize va_up (fun _ => X.2.2.1.2.2.2) 0 q2 = ad2 at hB q2e q2m
  subst q2e
  have hne2 : ∀ i j, i < hs_N (hs_mkO hs_0 10) → j < hs_N x_0 → ad2 i ≠ adx j := fun i j hi hj z => by
    have hi : i < 1 := hi
    have e : i = 0 := by omega
    subst e
    exact hne j hj z.symm
  refine lw_call1 (va_runI (As := []) (rest := [.ref (ad2 0)]) ⟨hx, hb, hml, hown, hts⟩ (ctX8_init l 1000 (hs_mkO hs_0 10) 0 X ad2 H.size _ _ m_0_is) (cwI 0 hts gL_law_X8_init rfl rfl rfl (hts0 _ lwt_n8) (hts0 _ lwt_m8) (hts0 _ lwt_j8) rfl (by decide +kernel) ⟨Nat.le_of_ble_eq_true rfl, Nat.le_of_ble_eq_true rfl⟩) (hs_pre hV hB hS hA0 hA q2m) rfl rfl hl.1 rfl (lv_room (Nat.le_of_ble_eq_true rfl)) dL_law_12 ⟨Nat.le_of_ble_eq_true rfl, Nat.le_of_ble_eq_true rfl⟩) hB hBx hne2 hS hA (vs := [.ref (ad2 0)]) (fun _ => rfl) (fun adm H locs had hBm hBx hne hS => ?_)
  have b0 : adm 0 = ad2 0 := had 0 (Or.inl (by decide))
  have hem : adm hs_em = X.2.2.1.2.2.2 := (had hs_em (Or.inr rfl)).trans q2m
  rw [← b0]
  refine lv_astore_n (lv' := [(2, .ref (adm 0)), (1, .ref (adx 0)), (0, .ref b)]) hx hb dL_law_15 rfl hl (by decide) rfl (fun ls hl => ?_)
  refine lv_iconst (v := 0) hx hb dL_law_16 (by decide) ?_
  refine lv_istore_n (lv' := [(3, .int 0), (2, .ref (adm 0)), (1, .ref (adx 0)), (0, .ref b)]) hx hb dL_law_17 rfl hl (by decide) rfl (fun ls hl => ?_)
  exact law_loop (l := l) ⟨hx, hb, hml, hown, hts, hX, hbl, hV, hn0⟩ hr hlocks hL 513 0 adx adm x_0 m_0 H locs ls (by omega) (by omega) Rel_0 ⟨hBx, hBm, fun i j hi hj z => hne j i hj hi z.symm, hex, hem⟩ hS (lv_sub hl [3, 2, 1, 0] rfl)
set_option maxHeartbeats 4000000 in
theorem lw_walk (l : Launch) (b : Addr) (xs : List Int32) : MetFree l x (headSpec (Jvm.Cond.code x code maxLocals ret :: tables_1) room_1) (lw_P b xs) (fun _ _ _ _ _ => True) lw_Q := by
  refine MetFree.of_bodyS (code := code) (maxLocals := maxLocals) (ret := ret) (by decide) ?_ ?_
  · intro args s m h hn
    obtain ⟨meth, c, h1, h2, h3, h4, h5, h6, -, -⟩ := Cond.code_spec hn (atoms_spec (ws := Jvm.Cond.code x code maxLocals ret :: tables_1) h _ List.mem_cons_self)
    exact ⟨meth, c, h1, h2, h3, h4, h5, h6⟩
  · intro p e s m args below meth c s₁ B hml0 hP _
    obtain ⟨rfl, hx, hbd, hgv⟩ := hP
    obtain ⟨scr, harrAt, hlist, hof, hsmall⟩ := hx
    obtain ⟨hcb, hkn, -, -⟩ := State.arrayAt?_spec harrAt
    have hown : s.vm.findClass R_law = some m.cls := findClass_of_methodNamed B.named
    have hts0 : ∀ c ∈ (Jvm.Cond.code x code maxLocals ret :: tables_1), c.before #[Value.ref b] s = true := atoms_spec (ws := Jvm.Cond.code x code maxLocals ret :: tables_1) B.pre
    have hts : ∀ w ∈ lw_tbl, w.before #[Value.ref b] s = true := k2_hts_sels lw_privs (fun w hw => hts0 w (List.mem_cons_of_mem _ hw)) lw_privs_ok
    have hml : c.maxLocals = 4 := B.maxLocals_eq (hts0 _ List.mem_cons_self)
    have X₀ : Stand p l e room_1 s m #[Value.ref b] below meth c s₁ [] 0 0 := Stand.of_body B
    have hh0 : s₁.heap = s.heap := by rw [B.state]; rfl
    have hsz : scr.slots.size = xs.length := by rw [← Array.length_toList, hlist, List.length_map]
    have hval : ∀ j : Nat, j < xs.length → scr.slots[j]? = some (.int (xs.getD j 0)) := fun j hj => by
      rw [← Array.getElem?_toList, hlist]
      simp [hj]
    have hbl : b < s.heap.size := (Array.getElem?_eq_some_iff.mp hcb).1
    have hX : va_X b xs.length (fun j => xs.getD j 0) s s.heap := ⟨scr, hcb, hof, hkn, hsz, hval⟩
    have K : W p l e room_1 s m #[Value.ref b] below meth c s₁.heap [] 0 0 (lw_Z below #[Value.ref b] s) (entryFrame m ([Value.ref b] : List Value).toArray 4) := by
      rw [hh0]
      exact whole_start l hbd ⟨B.exec, B.bytes, B.returns, hml, hown, hts, hX, hbl, B.notSynchronized, hgv⟩
    obtain ⟨t, a1, o, b1, b2, b3⟩ := K s₁ rfl X₀
    exact ⟨t, o, a1, b1, b2, b3⟩
theorem lw_pre_spec {args : Array Value} {s : State} (h : (Jvm.Cond.and given_1 narrow_1).before args s = true) (hr : rest_1_c.before args s = true) : ∃ (b : Addr) (xs : List Int32), lw_P b xs args s := by
  have hs := flat_of_before _ h
  have hq := flat_of_before _ hr
  have hc : (Cond.count 1).before args s = true := hs _ (by decide +kernel)
  have harr : (Cond.arrayOf (.arg 0) .int).before args s = true := hs _ (by decide +kernel)
  have hle : (Cond.le (.length (.arg 0)) (.int 3072)).before args s = true := hs _ (by decide +kernel)
  have hlen : (Cond.isInt (.length (.arg 0))).before args s = true := hq _ (by decide +kernel)
  have hall : (Cond.all (.arg 0) (.isInt (.elem (.arg 0) (.index 0)))).before args s = true := hq _ (by decide +kernel)
  obtain ⟨b, xs, hb, hx⟩ := State.ints_of_pre rfl harr hlen hall
  have hsm : xs.length < 2 ^ 31 := hx.choose_spec.2.2.2
  have hev : (Term.length (.arg 0)).eval args s none [] s = some (.int xs.length.toInt32) := hx.length_eval hb
  have hv := Cond.le_ints hev (show (Term.int 3072).eval args s none [] s = some (.int 3072) from rfl)
  have hd : xs.length.toInt32 ≤ 3072 := by
    simpa [Cond.before, Cond.holds, hv] using hle
  have hN : xs.length ≤ 3072 := (Int32.ofNat_le_ofNat hsm (by decide)).mp (show Int32.ofNat xs.length ≤ Int32.ofNat 3072 from hd)
  exact ⟨b, xs, Cond.one_arg hc (show args[0]? = some (.ref b) from hb), hx, hN, h⟩
theorem lw_comes (l : Launch) : Comes l x (Jvm.Cond.code x code maxLocals ret :: tables_1) room_1 (fun tb e args s => Calls_1 tb e args s ∧ rest_1 tb e args s ∧ Pre_1 tb e args s)
    (fun _ _ args s o t => lw_Q args s o t) := by
  intro p e ha hc hk s m args below hf hfit hheap happ hpre
  obtain ⟨b, xs, hP⟩ := lw_pre_spec hpre.2.2 hpre.2.1
  obtain ⟨k, o, h1, h2, h3, hQ⟩ := lw_walk l b xs p e ha hc hk s m args below hf ((Spec.applies_iff_loose hf).mp happ).1 hP trivial
  exact ⟨k, o, h1, h2, h3, hQ⟩
theorem lw_frame {s t : State} {o : Outcome} {args : Array Value} (h : Framed s o t [] 600000 7302250) :
    Framed s o t (fieldLocs frame_1_writes args s ++ arrayLocs frame_1_arrays args s ++ staticLocs frame_1_statics s) 600000 7302250 := h
theorem lw_limb (L : Cond) (hL : ∀ (args : Array Value) (s t : State), L.after args s (.returned (some (.int 1))) t = true) :
    ArmFor flags0 classFile x code maxLocals ret World_1 tables_1 room_1 Calls_1 rest_1 Pre_1
      (fun tb e a s o t => postC L tb e a s o t ∧ Framed s o t (fieldLocs frame_1_writes a s ++ arrayLocs frame_1_arrays a s ++ staticLocs frame_1_statics s) 600000 7302250) := by
  intro l _ _ _ p e ha hc hk s m args below hf hfit hheap happ hpre
  obtain ⟨k, o, h1, h2, h3, rfl, hF⟩ := lw_comes l p e ha hc hk s m args below hf hfit hheap happ hpre
  exact ⟨k, _, h1, h2, h3, hL args s _, lw_frame hF⟩
theorem i_vc : Claimed_1_1 ∧ Claimed_1_2 := ⟨lw_limb limb_1_1 (fun args s t => by simp [limb_1_1, Cond.after, Cond.holds, Cond.value]), lw_limb limb_1_2 (fun args s t => Cond.after_iff.mpr (by
  first | (rw [show limb_1_2 = Cond.eq .result (.int 1) from rfl, Cond.eq_ints (x := 1) (y := 1) rfl rfl]; simp; done) | (simp [limb_1_2, Cond.value, Term.eval]; done)))⟩
