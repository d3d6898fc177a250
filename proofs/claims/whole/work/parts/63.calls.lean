/-! The law: each of its calls -/
section LawCalls
variable {p : Program} {l : Launch} {e : Env} {s : State} {m : MethodId} {below : List Frame} {meth : Method} {c : Code} {X : hs_X} {b L j k : Nat} {xs : Nat → Int32} {adx adm : Nat → Nat} {x mo : hs_T} {Q : State → Prop} {H : Heap} {locs : List Loc} {ls : Array Slot} {cells slots : Nat}
/-- what comes behind a call of the script -/
def lwK (p : Program) (l : Launch) (e : Env) (s : State) (m : MethodId) (below : List Frame) (meth : Method) (c : Code) (X : hs_X) (b j k cells slots : Nat) (Q : State → Prop) : Prop := ∀ (adx adm : Nat → Nat) (x mo : hs_T) (H : Heap) (locs : List Loc) (ls : Array Slot), Rel k x mo → lwI X adx adm x mo H → va_S (hs_A0 X) s.heap H locs → lwL ls b adx adm j → W p l e room_1 s m #[Value.ref b] below meth c H locs cells slots Q (F0 m 794 ls [])
theorem lw_c18 : Cond.constantLong RL 18 4294967295 ∈ wsL_law := List.mem_append_left _ (List.mem_append_left _ (List.mem_append_left _ (List.mem_append_left _ (List.mem_append_left _ (List.mem_append_left _ (List.mem_append_left _ (List.mem_append_left _ (List.mem_append_left _ (List.mem_append_left _ (List.mem_append_left _ (List.mem_append_left _ (by decide +kernel))))))))))))
set_option maxRecDepth 100000 in
set_option maxHeartbeats 4000000 in
theorem law_team (C : lwC p s m c X b L xs) (hR : Rel k x mo) (hk : k < 512) (hI : lwI X adx adm x mo H) (hS : va_S (hs_A0 X) s.heap H locs) (hl : lwL ls b adx adm j) (hj : j + 6 ≤ L) (hL : L ≤ 3072) (hcs : cells + 27 ≤ 600000 ∧ slots + 3705 ≤ 7302250) (KK : lwK p l e s m below meth c X b j (k + 1) (cells + 27) (slots + 3705) Q) : W p l e room_1 s m #[Value.ref b] below meth c H locs cells slots Q (F0 m 120 ls []) := by
  obtain ⟨hx, hb, hml, hown, hts, hX, hbl, hV, hn0⟩ := id C
  have hK := hV.1
  have hA0 : ∀ q, hs_A0 X q → hs_A0 X q := fun _ h => h
  have hA : ∀ q, s.heap.size ≤ q → hs_A0 X q := fun q h => by unfold hs_A0; rw [hn0]; exact h
  have hbA : ¬ hs_A0 X b := by unfold hs_A0; rw [hn0]; omega
  have hin : ∀ i, i < 6 → vp_in (nI j + nI i) L := fun i hi => by rw [nI_add]; exact vp_in_nI (by omega) (by omega)
  obtain ⟨okx, okm⟩ := Rel_ok hR
  obtain ⟨r, x2, m2, e1, e2, hR2⟩ : Op k (fX7_team 1000 x 0 ) (fX8_team 1000 mo 0 ) := by
    obtain ⟨T, Rd, nh, st, sv, hn, hb, hp, hr, h⟩ := hR
    exact op_team hk h
  obtain ⟨hBx, hBm, hne, hex, hem⟩ := hI
  refine lv_aload_n hx hb dL_law_120 rfl (lv_at hl 1 rfl) ?_
  refine lw_call1 (va_runV (As := []) (rest := []) ⟨hx, hb, hml, hown, hts⟩ (ctX7_team l 1000 x 0  X adx H.size _ _ e1) (cwV 0 hts gL_law_X7_team rfl rfl rfl (by decide +kernel) ⟨Nat.le_of_ble_eq_true rfl, Nat.le_of_ble_eq_true rfl⟩) (hs_preV (hs_recv hK hBx okx (by decide) rfl) hV hBx hS hA0 hA hex) rfl rfl hl.1 rfl (lv_room (Nat.le_of_ble_eq_true rfl)) dL_law_121 (show cells + 27 ≤ 600000 ∧ slots + 3705 ≤ 7302250 by omega)) hBx hBm hne hS hA (vs := [.int r]) (fun _ => rfl) (fun adx2 H locs had hBx hBm hne hS => ?_)
  have hl : lwL ls b adx2 adm j := by
    have e0 : adx2 0 = adx 0 := had 0 (Or.inl okx.2)
    unfold lwL
    rw [e0]
    exact hl
  have hex : adx2 hs_em = X.2.2.1.2.2.2 := (had hs_em (Or.inr rfl)).trans hex
  refine lv_aload_n hx hb dL_law_124 rfl (lv_at hl 2 rfl) ?_
  refine lw_call0 (va_runV (As := []) (rest := [.int r]) ⟨hx, hb, hml, hown, hts⟩ (ctX8_team l 1000 mo 0  X adm H.size _ _ e2) (cwV 0 hts gL_law_X8_team rfl rfl rfl (by decide +kernel) ⟨Nat.le_of_ble_eq_true rfl, Nat.le_of_ble_eq_true rfl⟩) (hs_preV (hs_recv hK hBm okm (by decide) rfl) hV hBm hS hA0 hA hem) rfl rfl hl.1 rfl (lv_room (Nat.le_of_ble_eq_true rfl)) dL_law_125 (show cells + 27 + 0 ≤ 600000 ∧ slots + 3705 + 0 ≤ 7302250 by omega)) hBm hBx (fun i q hi hq z => hne q i hq hi z.symm) hS hA (vs := [.int r, .int r]) rfl (fun H locs hBm hBx hne2 hS => ?_)
  refine lv_icmp_eq (tgt := 794) hx hb dL_law_128 (by decide) (fun _ => ?_) (fun h => absurd rfl h)
  refine W.widen (k := cells + 27) (n := slots + 3705) (by omega) (by omega) ?_
  exact KK adx2 adm x2 m2 H locs ls hR2 ⟨hBx, hBm, fun i q hi hq z => hne2 q i hq hi z.symm, hex, hem⟩ hS hl
set_option maxRecDepth 100000 in
set_option maxHeartbeats 4000000 in
theorem law_feed (C : lwC p s m c X b L xs) (hR : Rel k x mo) (hk : k < 512) (hI : lwI X adx adm x mo H) (hS : va_S (hs_A0 X) s.heap H locs) (hl : lwL ls b adx adm j) (hj : j + 6 ≤ L) (hL : L ≤ 3072) (hcs : cells + 27 ≤ 600000 ∧ slots + 3705 ≤ 7302250) (KK : lwK p l e s m below meth c X b j (k + 1) (cells + 27) (slots + 3705) Q) : W p l e room_1 s m #[Value.ref b] below meth c H locs cells slots Q (F0 m 133 ls []) := by
  obtain ⟨hx, hb, hml, hown, hts, hX, hbl, hV, hn0⟩ := id C
  have hK := hV.1
  have hA0 : ∀ q, hs_A0 X q → hs_A0 X q := fun _ h => h
  have hA : ∀ q, s.heap.size ≤ q → hs_A0 X q := fun q h => by unfold hs_A0; rw [hn0]; exact h
  have hbA : ¬ hs_A0 X b := by unfold hs_A0; rw [hn0]; omega
  have hin : ∀ i, i < 6 → vp_in (nI j + nI i) L := fun i hi => by rw [nI_add]; exact vp_in_nI (by omega) (by omega)
  obtain ⟨okx, okm⟩ := Rel_ok hR
  obtain ⟨r, x2, m2, e1, e2, hR2⟩ : Op k (fX7_feed 1000 x 0 (((xs (nI j + 1).toNatClampNeg).toInt64 <<< ((32 : Int32).toInt64 &&& 63)) ||| ((xs (nI j + 2).toNatClampNeg).toInt64 &&& 4294967295)) (xs (nI j + 3).toNatClampNeg)) (fX8_feed 1000 mo 0 (((xs (nI j + 1).toNatClampNeg).toInt64 <<< ((32 : Int32).toInt64 &&& 63)) ||| ((xs (nI j + 2).toNatClampNeg).toInt64 &&& 4294967295)) (xs (nI j + 3).toNatClampNeg)) := by
    obtain ⟨T, Rd, nh, st, sv, hn, hb, hp, hr, h⟩ := hR
    exact op_feed (by decide) h _ _
  obtain ⟨hBx, hBm, hne, hex, hem⟩ := hI
  refine lv_aload_n hx hb dL_law_133 rfl (lv_at hl 1 rfl) ?_
  refine lv_aload_n hx hb dL_law_134 rfl (lv_at hl 0 rfl) ?_
  refine lv_iload_n hx hb dL_law_135 rfl (lv_at hl 3 rfl) ?_
  refine lv_iconst (v := 1) hx hb dL_law_136 (by decide) ?_
  refine lv_iadd hx hb dL_law_137 ?_
  refine va_sld hx hb hX hbl hbA hS (hin 1 (by decide)) dL_law_138 ?_
  refine lv_i2l hx hb dL_law_139 rfl ?_
  refine lv_bipush (v := 32) hx hb dL_law_140 (by decide) ?_
  refine lv_lshl hx hb dL_law_142 rfl ?_
  refine lv_aload_n hx hb dL_law_143 rfl (lv_at hl 0 rfl) ?_
  refine lv_iload_n hx hb dL_law_144 rfl (lv_at hl 3 rfl) ?_
  refine lv_iconst (v := 2) hx hb dL_law_145 (by decide) ?_
  refine lv_iadd hx hb dL_law_146 ?_
  refine va_sld hx hb hX hbl hbA hS (hin 2 (by decide)) dL_law_147 ?_
  refine lv_i2l hx hb dL_law_148 rfl ?_
  refine lv_ldc2 hx hb hown (hts _ lw_c18) dL_law_149 ?_
  refine lv_land hx hb dL_law_152 ?_
  refine lv_lor hx hb dL_law_153 ?_
  refine lv_aload_n hx hb dL_law_154 rfl (lv_at hl 0 rfl) ?_
  refine lv_iload_n hx hb dL_law_155 rfl (lv_at hl 3 rfl) ?_
  refine lv_iconst (v := 3) hx hb dL_law_156 (by decide) ?_
  refine lv_iadd hx hb dL_law_157 ?_
  refine va_sld hx hb hX hbl hbA hS (hin 3 (by decide)) dL_law_158 ?_
  refine lw_call0 (va_runV (As := [.long (((xs (nI j + 1).toNatClampNeg).toInt64 <<< ((32 : Int32).toInt64 &&& 63)) ||| ((xs (nI j + 2).toNatClampNeg).toInt64 &&& 4294967295)), .int (xs (nI j + 3).toNatClampNeg)]) (rest := []) ⟨hx, hb, hml, hown, hts⟩ (ctX7_feed l 1000 x 0 (((xs (nI j + 1).toNatClampNeg).toInt64 <<< ((32 : Int32).toInt64 &&& 63)) ||| ((xs (nI j + 2).toNatClampNeg).toInt64 &&& 4294967295)) (xs (nI j + 3).toNatClampNeg) X adx H.size _ _ e1) (cwV 2 hts gL_law_X7_feed rfl rfl rfl (by decide +kernel) ⟨Nat.le_of_ble_eq_true rfl, Nat.le_of_ble_eq_true rfl⟩) (hs_preV (hs_recv hK hBx okx (by decide) rfl) hV hBx hS hA0 hA hex) rfl rfl hl.1 rfl (lv_room (Nat.le_of_ble_eq_true rfl)) dL_law_159 (show cells + 0 ≤ 600000 ∧ slots + 0 ≤ 7302250 by omega)) hBx hBm hne hS hA (vs := [.int r]) rfl (fun H locs hBx hBm hne hS => ?_)
  refine lv_aload_n hx hb dL_law_162 rfl (lv_at hl 2 rfl) ?_
  refine lv_aload_n hx hb dL_law_163 rfl (lv_at hl 0 rfl) ?_
  refine lv_iload_n hx hb dL_law_164 rfl (lv_at hl 3 rfl) ?_
  refine lv_iconst (v := 1) hx hb dL_law_165 (by decide) ?_
  refine lv_iadd hx hb dL_law_166 ?_
  refine va_sld hx hb hX hbl hbA hS (hin 1 (by decide)) dL_law_167 ?_
  refine lv_i2l hx hb dL_law_168 rfl ?_
  refine lv_bipush (v := 32) hx hb dL_law_169 (by decide) ?_
  refine lv_lshl hx hb dL_law_171 rfl ?_
  refine lv_aload_n hx hb dL_law_172 rfl (lv_at hl 0 rfl) ?_
  refine lv_iload_n hx hb dL_law_173 rfl (lv_at hl 3 rfl) ?_
  refine lv_iconst (v := 2) hx hb dL_law_174 (by decide) ?_
  refine lv_iadd hx hb dL_law_175 ?_
  refine va_sld hx hb hX hbl hbA hS (hin 2 (by decide)) dL_law_176 ?_
  refine lv_i2l hx hb dL_law_177 rfl ?_
  refine lv_ldc2 hx hb hown (hts _ lw_c18) dL_law_178 ?_
  refine lv_land hx hb dL_law_181 ?_
  refine lv_lor hx hb dL_law_182 ?_
  refine lv_aload_n hx hb dL_law_183 rfl (lv_at hl 0 rfl) ?_
  refine lv_iload_n hx hb dL_law_184 rfl (lv_at hl 3 rfl) ?_
  refine lv_iconst (v := 3) hx hb dL_law_185 (by decide) ?_
  refine lv_iadd hx hb dL_law_186 ?_
  refine va_sld hx hb hX hbl hbA hS (hin 3 (by decide)) dL_law_187 ?_
  refine lw_call0 (va_runV (As := [.long (((xs (nI j + 1).toNatClampNeg).toInt64 <<< ((32 : Int32).toInt64 &&& 63)) ||| ((xs (nI j + 2).toNatClampNeg).toInt64 &&& 4294967295)), .int (xs (nI j + 3).toNatClampNeg)]) (rest := [.int r]) ⟨hx, hb, hml, hown, hts⟩ (ctX8_feed l 1000 mo 0 (((xs (nI j + 1).toNatClampNeg).toInt64 <<< ((32 : Int32).toInt64 &&& 63)) ||| ((xs (nI j + 2).toNatClampNeg).toInt64 &&& 4294967295)) (xs (nI j + 3).toNatClampNeg) X adm H.size _ _ e2) (cwV 2 hts gL_law_X8_feed rfl rfl rfl (by decide +kernel) ⟨Nat.le_of_ble_eq_true rfl, Nat.le_of_ble_eq_true rfl⟩) (hs_preV (hs_recv hK hBm okm (by decide) rfl) hV hBm hS hA0 hA hem) rfl rfl hl.1 rfl (lv_room (Nat.le_of_ble_eq_true rfl)) dL_law_188 (show cells + 0 ≤ 600000 ∧ slots + 0 ≤ 7302250 by omega)) hBm hBx (fun i q hi hq z => hne q i hq hi z.symm) hS hA (vs := [.int r, .int r]) rfl (fun H locs hBm hBx hne2 hS => ?_)
  refine lv_icmp_eq (tgt := 794) hx hb dL_law_191 (by decide) (fun _ => ?_) (fun h => absurd rfl h)
  refine W.widen (k := cells + 27) (n := slots + 3705) (by omega) (by omega) ?_
  exact KK adx adm x2 m2 H locs ls hR2 ⟨hBx, hBm, fun i q hi hq z => hne2 q i hq hi z.symm, hex, hem⟩ hS hl
set_option maxRecDepth 100000 in
set_option maxHeartbeats 4000000 in
theorem law_patch (C : lwC p s m c X b L xs) (hR : Rel k x mo) (hk : k < 512) (hI : lwI X adx adm x mo H) (hS : va_S (hs_A0 X) s.heap H locs) (hl : lwL ls b adx adm j) (hj : j + 6 ≤ L) (hL : L ≤ 3072) (hcs : cells + 27 ≤ 600000 ∧ slots + 3705 ≤ 7302250) (KK : lwK p l e s m below meth c X b j (k + 1) (cells + 27) (slots + 3705) Q) : W p l e room_1 s m #[Value.ref b] below meth c H locs cells slots Q (F0 m 196 ls []) := by
  obtain ⟨hx, hb, hml, hown, hts, hX, hbl, hV, hn0⟩ := id C
  have hK := hV.1
  have hA0 : ∀ q, hs_A0 X q → hs_A0 X q := fun _ h => h
  have hA : ∀ q, s.heap.size ≤ q → hs_A0 X q := fun q h => by unfold hs_A0; rw [hn0]; exact h
  have hbA : ¬ hs_A0 X b := by unfold hs_A0; rw [hn0]; omega
  have hin : ∀ i, i < 6 → vp_in (nI j + nI i) L := fun i hi => by rw [nI_add]; exact vp_in_nI (by omega) (by omega)
  obtain ⟨okx, okm⟩ := Rel_ok hR
  obtain ⟨r, x2, m2, e1, e2, hR2⟩ : Op k (fX7_patch 1000 x 0 (xs (nI j + 1).toNatClampNeg) (xs (nI j + 2).toNatClampNeg)) (fX8_patch 1000 mo 0 (xs (nI j + 1).toNatClampNeg) (xs (nI j + 2).toNatClampNeg)) := by
    obtain ⟨T, Rd, nh, st, sv, hn, hb, hp, hr, h⟩ := hR
    exact op_patch hk (by decide) h _ _
  obtain ⟨hBx, hBm, hne, hex, hem⟩ := hI
  refine lv_aload_n hx hb dL_law_196 rfl (lv_at hl 1 rfl) ?_
  refine lv_aload_n hx hb dL_law_197 rfl (lv_at hl 0 rfl) ?_
  refine lv_iload_n hx hb dL_law_198 rfl (lv_at hl 3 rfl) ?_
  refine lv_iconst (v := 1) hx hb dL_law_199 (by decide) ?_
  refine lv_iadd hx hb dL_law_200 ?_
  refine va_sld hx hb hX hbl hbA hS (hin 1 (by decide)) dL_law_201 ?_
  refine lv_aload_n hx hb dL_law_202 rfl (lv_at hl 0 rfl) ?_
  refine lv_iload_n hx hb dL_law_203 rfl (lv_at hl 3 rfl) ?_
  refine lv_iconst (v := 2) hx hb dL_law_204 (by decide) ?_
  refine lv_iadd hx hb dL_law_205 ?_
  refine va_sld hx hb hX hbl hbA hS (hin 2 (by decide)) dL_law_206 ?_
  refine lw_call1 (va_runV (As := [.int (xs (nI j + 1).toNatClampNeg), .int (xs (nI j + 2).toNatClampNeg)]) (rest := []) ⟨hx, hb, hml, hown, hts⟩ (ctX7_patch l 1000 x 0 (xs (nI j + 1).toNatClampNeg) (xs (nI j + 2).toNatClampNeg) X adx H.size _ _ e1) (cwV 2 hts gL_law_X7_patch rfl rfl rfl (by decide +kernel) ⟨Nat.le_of_ble_eq_true rfl, Nat.le_of_ble_eq_true rfl⟩) (hs_preV (hs_recv hK hBx okx (by decide) rfl) hV hBx hS hA0 hA hex) rfl rfl hl.1 rfl (lv_room (Nat.le_of_ble_eq_true rfl)) dL_law_207 (show cells + 3 ≤ 600000 ∧ slots + 51 ≤ 7302250 by omega)) hBx hBm hne hS hA (vs := [.int r]) (fun _ => rfl) (fun adx2 H locs had hBx hBm hne hS => ?_)
  have hl : lwL ls b adx2 adm j := by
    have e0 : adx2 0 = adx 0 := had 0 (Or.inl okx.2)
    unfold lwL
    rw [e0]
    exact hl
  have hex : adx2 hs_em = X.2.2.1.2.2.2 := (had hs_em (Or.inr rfl)).trans hex
  refine lv_aload_n hx hb dL_law_210 rfl (lv_at hl 2 rfl) ?_
  refine lv_aload_n hx hb dL_law_211 rfl (lv_at hl 0 rfl) ?_
  refine lv_iload_n hx hb dL_law_212 rfl (lv_at hl 3 rfl) ?_
  refine lv_iconst (v := 1) hx hb dL_law_213 (by decide) ?_
  refine lv_iadd hx hb dL_law_214 ?_
  refine va_sld hx hb hX hbl hbA hS (hin 1 (by decide)) dL_law_215 ?_
  refine lv_aload_n hx hb dL_law_216 rfl (lv_at hl 0 rfl) ?_
  refine lv_iload_n hx hb dL_law_217 rfl (lv_at hl 3 rfl) ?_
  refine lv_iconst (v := 2) hx hb dL_law_218 (by decide) ?_
  refine lv_iadd hx hb dL_law_219 ?_
  refine va_sld hx hb hX hbl hbA hS (hin 2 (by decide)) dL_law_220 ?_
  refine lw_call0 (va_runV (As := [.int (xs (nI j + 1).toNatClampNeg), .int (xs (nI j + 2).toNatClampNeg)]) (rest := [.int r]) ⟨hx, hb, hml, hown, hts⟩ (ctX8_patch l 1000 mo 0 (xs (nI j + 1).toNatClampNeg) (xs (nI j + 2).toNatClampNeg) X adm H.size _ _ e2) (cwV 2 hts gL_law_X8_patch rfl rfl rfl (by decide +kernel) ⟨Nat.le_of_ble_eq_true rfl, Nat.le_of_ble_eq_true rfl⟩) (hs_preV (hs_recv hK hBm okm (by decide) rfl) hV hBm hS hA0 hA hem) rfl rfl hl.1 rfl (lv_room (Nat.le_of_ble_eq_true rfl)) dL_law_221 (show cells + 3 + 0 ≤ 600000 ∧ slots + 51 + 0 ≤ 7302250 by omega)) hBm hBx (fun i q hi hq z => hne q i hq hi z.symm) hS hA (vs := [.int r, .int r]) rfl (fun H locs hBm hBx hne2 hS => ?_)
  refine lv_icmp_eq (tgt := 794) hx hb dL_law_224 (by decide) (fun _ => ?_) (fun h => absurd rfl h)
  refine W.widen (k := cells + 27) (n := slots + 3705) (by omega) (by omega) ?_
  exact KK adx2 adm x2 m2 H locs ls hR2 ⟨hBx, hBm, fun i q hi hq z => hne2 q i hq hi z.symm, hex, hem⟩ hS hl
set_option maxRecDepth 100000 in
set_option maxHeartbeats 4000000 in
theorem law_unpatch (C : lwC p s m c X b L xs) (hR : Rel k x mo) (hk : k < 512) (hI : lwI X adx adm x mo H) (hS : va_S (hs_A0 X) s.heap H locs) (hl : lwL ls b adx adm j) (hj : j + 6 ≤ L) (hL : L ≤ 3072) (hcs : cells + 27 ≤ 600000 ∧ slots + 3705 ≤ 7302250) (KK : lwK p l e s m below meth c X b j (k + 1) (cells + 27) (slots + 3705) Q) : W p l e room_1 s m #[Value.ref b] below meth c H locs cells slots Q (F0 m 229 ls []) := by
  obtain ⟨hx, hb, hml, hown, hts, hX, hbl, hV, hn0⟩ := id C
  have hK := hV.1
  have hA0 : ∀ q, hs_A0 X q → hs_A0 X q := fun _ h => h
  have hA : ∀ q, s.heap.size ≤ q → hs_A0 X q := fun q h => by unfold hs_A0; rw [hn0]; exact h
  have hbA : ¬ hs_A0 X b := by unfold hs_A0; rw [hn0]; omega
  have hin : ∀ i, i < 6 → vp_in (nI j + nI i) L := fun i hi => by rw [nI_add]; exact vp_in_nI (by omega) (by omega)
  obtain ⟨okx, okm⟩ := Rel_ok hR
  obtain ⟨r, x2, m2, e1, e2, hR2⟩ : Op k (fX7_unpatch 1000 x 0 (xs (nI j + 1).toNatClampNeg) (xs (nI j + 2).toNatClampNeg)) (fX8_unpatch 1000 mo 0 (xs (nI j + 1).toNatClampNeg) (xs (nI j + 2).toNatClampNeg)) := by
    obtain ⟨T, Rd, nh, st, sv, hn, hb, hp, hr, h⟩ := hR
    exact op_unpatch h _ _
  obtain ⟨hBx, hBm, hne, hex, hem⟩ := hI
  refine lv_aload_n hx hb dL_law_229 rfl (lv_at hl 1 rfl) ?_
  refine lv_aload_n hx hb dL_law_230 rfl (lv_at hl 0 rfl) ?_
  refine lv_iload_n hx hb dL_law_231 rfl (lv_at hl 3 rfl) ?_
  refine lv_iconst (v := 1) hx hb dL_law_232 (by decide) ?_
  refine lv_iadd hx hb dL_law_233 ?_
  refine va_sld hx hb hX hbl hbA hS (hin 1 (by decide)) dL_law_234 ?_
  refine lv_aload_n hx hb dL_law_235 rfl (lv_at hl 0 rfl) ?_
  refine lv_iload_n hx hb dL_law_236 rfl (lv_at hl 3 rfl) ?_
  refine lv_iconst (v := 2) hx hb dL_law_237 (by decide) ?_
  refine lv_iadd hx hb dL_law_238 ?_
  refine va_sld hx hb hX hbl hbA hS (hin 2 (by decide)) dL_law_239 ?_
  refine lw_call0 (va_runV (As := [.int (xs (nI j + 1).toNatClampNeg), .int (xs (nI j + 2).toNatClampNeg)]) (rest := []) ⟨hx, hb, hml, hown, hts⟩ (ctX7_unpatch l 1000 x 0 (xs (nI j + 1).toNatClampNeg) (xs (nI j + 2).toNatClampNeg) X adx H.size _ _ e1) (cwV 2 hts gL_law_X7_unpatch rfl rfl rfl (by decide +kernel) ⟨Nat.le_of_ble_eq_true rfl, Nat.le_of_ble_eq_true rfl⟩) (hs_preV (hs_recv hK hBx okx (by decide) rfl) hV hBx hS hA0 hA hex) rfl rfl hl.1 rfl (lv_room (Nat.le_of_ble_eq_true rfl)) dL_law_240 (show cells + 0 ≤ 600000 ∧ slots + 0 ≤ 7302250 by omega)) hBx hBm hne hS hA (vs := [.int r]) rfl (fun H locs hBx hBm hne hS => ?_)
  refine lv_aload_n hx hb dL_law_243 rfl (lv_at hl 2 rfl) ?_
  refine lv_aload_n hx hb dL_law_244 rfl (lv_at hl 0 rfl) ?_
  refine lv_iload_n hx hb dL_law_245 rfl (lv_at hl 3 rfl) ?_
  refine lv_iconst (v := 1) hx hb dL_law_246 (by decide) ?_
  refine lv_iadd hx hb dL_law_247 ?_
  refine va_sld hx hb hX hbl hbA hS (hin 1 (by decide)) dL_law_248 ?_
  refine lv_aload_n hx hb dL_law_249 rfl (lv_at hl 0 rfl) ?_
  refine lv_iload_n hx hb dL_law_250 rfl (lv_at hl 3 rfl) ?_
  refine lv_iconst (v := 2) hx hb dL_law_251 (by decide) ?_
  refine lv_iadd hx hb dL_law_252 ?_
  refine va_sld hx hb hX hbl hbA hS (hin 2 (by decide)) dL_law_253 ?_
  refine lw_call0 (va_runV (As := [.int (xs (nI j + 1).toNatClampNeg), .int (xs (nI j + 2).toNatClampNeg)]) (rest := [.int r]) ⟨hx, hb, hml, hown, hts⟩ (ctX8_unpatch l 1000 mo 0 (xs (nI j + 1).toNatClampNeg) (xs (nI j + 2).toNatClampNeg) X adm H.size _ _ e2) (cwV 2 hts gL_law_X8_unpatch rfl rfl rfl (by decide +kernel) ⟨Nat.le_of_ble_eq_true rfl, Nat.le_of_ble_eq_true rfl⟩) (hs_preV (hs_recv hK hBm okm (by decide) rfl) hV hBm hS hA0 hA hem) rfl rfl hl.1 rfl (lv_room (Nat.le_of_ble_eq_true rfl)) dL_law_254 (show cells + 0 ≤ 600000 ∧ slots + 0 ≤ 7302250 by omega)) hBm hBx (fun i q hi hq z => hne q i hq hi z.symm) hS hA (vs := [.int r, .int r]) rfl (fun H locs hBm hBx hne2 hS => ?_)
  refine lv_icmp_eq (tgt := 794) hx hb dL_law_257 (by decide) (fun _ => ?_) (fun h => absurd rfl h)
  refine W.widen (k := cells + 27) (n := slots + 3705) (by omega) (by omega) ?_
  exact KK adx adm x2 m2 H locs ls hR2 ⟨hBx, hBm, fun i q hi hq z => hne2 q i hq hi z.symm, hex, hem⟩ hS hl
set_option maxRecDepth 100000 in
set_option maxHeartbeats 4000000 in
theorem law_cell (C : lwC p s m c X b L xs) (hR : Rel k x mo) (hk : k < 512) (hI : lwI X adx adm x mo H) (hS : va_S (hs_A0 X) s.heap H locs) (hl : lwL ls b adx adm j) (hj : j + 6 ≤ L) (hL : L ≤ 3072) (hcs : cells + 27 ≤ 600000 ∧ slots + 3705 ≤ 7302250) (KK : lwK p l e s m below meth c X b j (k + 1) (cells + 27) (slots + 3705) Q) : W p l e room_1 s m #[Value.ref b] below meth c H locs cells slots Q (F0 m 262 ls []) := by
  obtain ⟨hx, hb, hml, hown, hts, hX, hbl, hV, hn0⟩ := id C
  have hK := hV.1
  have hA0 : ∀ q, hs_A0 X q → hs_A0 X q := fun _ h => h
  have hA : ∀ q, s.heap.size ≤ q → hs_A0 X q := fun q h => by unfold hs_A0; rw [hn0]; exact h
  have hbA : ¬ hs_A0 X b := by unfold hs_A0; rw [hn0]; omega
  have hin : ∀ i, i < 6 → vp_in (nI j + nI i) L := fun i hi => by rw [nI_add]; exact vp_in_nI (by omega) (by omega)
  obtain ⟨okx, okm⟩ := Rel_ok hR
  obtain ⟨r, x2, m2, e1, e2, hR2⟩ : Op k (fX7_cell 1000 x 0 (xs (nI j + 1).toNatClampNeg) (xs (nI j + 2).toNatClampNeg) (xs (nI j + 3).toNatClampNeg)) (fX8_cell 1000 mo 0 (xs (nI j + 1).toNatClampNeg) (xs (nI j + 2).toNatClampNeg) (xs (nI j + 3).toNatClampNeg)) := by
    obtain ⟨T, Rd, nh, st, sv, hn, hb, hp, hr, h⟩ := hR
    exact Op_same h (op_cell h _ _ _)
  obtain ⟨hBx, hBm, hne, hex, hem⟩ := hI
  refine lv_aload_n hx hb dL_law_262 rfl (lv_at hl 1 rfl) ?_
  refine lv_aload_n hx hb dL_law_263 rfl (lv_at hl 0 rfl) ?_
  refine lv_iload_n hx hb dL_law_264 rfl (lv_at hl 3 rfl) ?_
  refine lv_iconst (v := 1) hx hb dL_law_265 (by decide) ?_
  refine lv_iadd hx hb dL_law_266 ?_
  refine va_sld hx hb hX hbl hbA hS (hin 1 (by decide)) dL_law_267 ?_
  refine lv_aload_n hx hb dL_law_268 rfl (lv_at hl 0 rfl) ?_
  refine lv_iload_n hx hb dL_law_269 rfl (lv_at hl 3 rfl) ?_
  refine lv_iconst (v := 2) hx hb dL_law_270 (by decide) ?_
  refine lv_iadd hx hb dL_law_271 ?_
  refine va_sld hx hb hX hbl hbA hS (hin 2 (by decide)) dL_law_272 ?_
  refine lv_aload_n hx hb dL_law_273 rfl (lv_at hl 0 rfl) ?_
  refine lv_iload_n hx hb dL_law_274 rfl (lv_at hl 3 rfl) ?_
  refine lv_iconst (v := 3) hx hb dL_law_275 (by decide) ?_
  refine lv_iadd hx hb dL_law_276 ?_
  refine va_sld hx hb hX hbl hbA hS (hin 3 (by decide)) dL_law_277 ?_
  refine lw_call0 (va_runV (As := [.int (xs (nI j + 1).toNatClampNeg), .int (xs (nI j + 2).toNatClampNeg), .int (xs (nI j + 3).toNatClampNeg)]) (rest := []) ⟨hx, hb, hml, hown, hts⟩ (ctX7_cell l 1000 x 0 (xs (nI j + 1).toNatClampNeg) (xs (nI j + 2).toNatClampNeg) (xs (nI j + 3).toNatClampNeg) X adx H.size _ _ e1) (cwV 3 hts gL_law_X7_cell rfl rfl rfl (by decide +kernel) ⟨Nat.le_of_ble_eq_true rfl, Nat.le_of_ble_eq_true rfl⟩) (hs_preV (hs_recv hK hBx okx (by decide) rfl) hV hBx hS hA0 hA hex) rfl rfl hl.1 rfl (lv_room (Nat.le_of_ble_eq_true rfl)) dL_law_278 (show cells + 0 ≤ 600000 ∧ slots + 0 ≤ 7302250 by omega)) hBx hBm hne hS hA (vs := [.int r]) rfl (fun H locs hBx hBm hne hS => ?_)
  refine lv_aload_n hx hb dL_law_281 rfl (lv_at hl 2 rfl) ?_
  refine lv_aload_n hx hb dL_law_282 rfl (lv_at hl 0 rfl) ?_
  refine lv_iload_n hx hb dL_law_283 rfl (lv_at hl 3 rfl) ?_
  refine lv_iconst (v := 1) hx hb dL_law_284 (by decide) ?_
  refine lv_iadd hx hb dL_law_285 ?_
  refine va_sld hx hb hX hbl hbA hS (hin 1 (by decide)) dL_law_286 ?_
  refine lv_aload_n hx hb dL_law_287 rfl (lv_at hl 0 rfl) ?_
  refine lv_iload_n hx hb dL_law_288 rfl (lv_at hl 3 rfl) ?_
  refine lv_iconst (v := 2) hx hb dL_law_289 (by decide) ?_
  refine lv_iadd hx hb dL_law_290 ?_
  refine va_sld hx hb hX hbl hbA hS (hin 2 (by decide)) dL_law_291 ?_
  refine lv_aload_n hx hb dL_law_292 rfl (lv_at hl 0 rfl) ?_
  refine lv_iload_n hx hb dL_law_293 rfl (lv_at hl 3 rfl) ?_
  refine lv_iconst (v := 3) hx hb dL_law_294 (by decide) ?_
  refine lv_iadd hx hb dL_law_295 ?_
  refine va_sld hx hb hX hbl hbA hS (hin 3 (by decide)) dL_law_296 ?_
  refine lw_call0 (va_runV (As := [.int (xs (nI j + 1).toNatClampNeg), .int (xs (nI j + 2).toNatClampNeg), .int (xs (nI j + 3).toNatClampNeg)]) (rest := [.int r]) ⟨hx, hb, hml, hown, hts⟩ (ctX8_cell l 1000 mo 0 (xs (nI j + 1).toNatClampNeg) (xs (nI j + 2).toNatClampNeg) (xs (nI j + 3).toNatClampNeg) X adm H.size _ _ e2) (cwV 3 hts gL_law_X8_cell rfl rfl rfl (by decide +kernel) ⟨Nat.le_of_ble_eq_true rfl, Nat.le_of_ble_eq_true rfl⟩) (hs_preV (hs_recv hK hBm okm (by decide) rfl) hV hBm hS hA0 hA hem) rfl rfl hl.1 rfl (lv_room (Nat.le_of_ble_eq_true rfl)) dL_law_297 (show cells + 0 ≤ 600000 ∧ slots + 0 ≤ 7302250 by omega)) hBm hBx (fun i q hi hq z => hne q i hq hi z.symm) hS hA (vs := [.int r, .int r]) rfl (fun H locs hBm hBx hne2 hS => ?_)
  refine lv_icmp_eq (tgt := 794) hx hb dL_law_300 (by decide) (fun _ => ?_) (fun h => absurd rfl h)
  refine W.widen (k := cells + 27) (n := slots + 3705) (by omega) (by omega) ?_
  exact KK adx adm x2 m2 H locs ls hR2 ⟨hBx, hBm, fun i q hi hq z => hne2 q i hq hi z.symm, hex, hem⟩ hS hl
set_option maxRecDepth 100000 in
set_option maxHeartbeats 4000000 in
theorem law_about (C : lwC p s m c X b L xs) (hR : Rel k x mo) (hk : k < 512) (hI : lwI X adx adm x mo H) (hS : va_S (hs_A0 X) s.heap H locs) (hl : lwL ls b adx adm j) (hj : j + 6 ≤ L) (hL : L ≤ 3072) (hcs : cells + 27 ≤ 600000 ∧ slots + 3705 ≤ 7302250) (KK : lwK p l e s m below meth c X b j (k + 1) (cells + 27) (slots + 3705) Q) : W p l e room_1 s m #[Value.ref b] below meth c H locs cells slots Q (F0 m 305 ls []) := by
  obtain ⟨hx, hb, hml, hown, hts, hX, hbl, hV, hn0⟩ := id C
  have hK := hV.1
  have hA0 : ∀ q, hs_A0 X q → hs_A0 X q := fun _ h => h
  have hA : ∀ q, s.heap.size ≤ q → hs_A0 X q := fun q h => by unfold hs_A0; rw [hn0]; exact h
  have hbA : ¬ hs_A0 X b := by unfold hs_A0; rw [hn0]; omega
  have hin : ∀ i, i < 6 → vp_in (nI j + nI i) L := fun i hi => by rw [nI_add]; exact vp_in_nI (by omega) (by omega)
  obtain ⟨okx, okm⟩ := Rel_ok hR
  obtain ⟨r, x2, m2, e1, e2, hR2⟩ : Op k (fX7_about 1000 x 0 (xs (nI j + 1).toNatClampNeg) (xs (nI j + 2).toNatClampNeg) (xs (nI j + 3).toNatClampNeg)) (fX8_about 1000 mo 0 (xs (nI j + 1).toNatClampNeg) (xs (nI j + 2).toNatClampNeg) (xs (nI j + 3).toNatClampNeg)) := by
    obtain ⟨T, Rd, nh, st, sv, hn, hb, hp, hr, h⟩ := hR
    exact Op_same h (op_about h _ _ _)
  obtain ⟨hBx, hBm, hne, hex, hem⟩ := hI
  refine lv_aload_n hx hb dL_law_305 rfl (lv_at hl 1 rfl) ?_
  refine lv_aload_n hx hb dL_law_306 rfl (lv_at hl 0 rfl) ?_
  refine lv_iload_n hx hb dL_law_307 rfl (lv_at hl 3 rfl) ?_
  refine lv_iconst (v := 1) hx hb dL_law_308 (by decide) ?_
  refine lv_iadd hx hb dL_law_309 ?_
  refine va_sld hx hb hX hbl hbA hS (hin 1 (by decide)) dL_law_310 ?_
  refine lv_aload_n hx hb dL_law_311 rfl (lv_at hl 0 rfl) ?_
  refine lv_iload_n hx hb dL_law_312 rfl (lv_at hl 3 rfl) ?_
  refine lv_iconst (v := 2) hx hb dL_law_313 (by decide) ?_
  refine lv_iadd hx hb dL_law_314 ?_
  refine va_sld hx hb hX hbl hbA hS (hin 2 (by decide)) dL_law_315 ?_
  refine lv_aload_n hx hb dL_law_316 rfl (lv_at hl 0 rfl) ?_
  refine lv_iload_n hx hb dL_law_317 rfl (lv_at hl 3 rfl) ?_
  refine lv_iconst (v := 3) hx hb dL_law_318 (by decide) ?_
  refine lv_iadd hx hb dL_law_319 ?_
  refine va_sld hx hb hX hbl hbA hS (hin 3 (by decide)) dL_law_320 ?_
  refine lw_call0 (va_runV (As := [.int (xs (nI j + 1).toNatClampNeg), .int (xs (nI j + 2).toNatClampNeg), .int (xs (nI j + 3).toNatClampNeg)]) (rest := []) ⟨hx, hb, hml, hown, hts⟩ (ctX7_about l 1000 x 0 (xs (nI j + 1).toNatClampNeg) (xs (nI j + 2).toNatClampNeg) (xs (nI j + 3).toNatClampNeg) X adx H.size _ _ e1) (cwV 3 hts gL_law_X7_about rfl rfl rfl (by decide +kernel) ⟨Nat.le_of_ble_eq_true rfl, Nat.le_of_ble_eq_true rfl⟩) (hs_preV (hs_recv hK hBx okx (by decide) rfl) hV hBx hS hA0 hA hex) rfl rfl hl.1 rfl (lv_room (Nat.le_of_ble_eq_true rfl)) dL_law_321 (show cells + 0 ≤ 600000 ∧ slots + 0 ≤ 7302250 by omega)) hBx hBm hne hS hA (vs := [.int r]) rfl (fun H locs hBx hBm hne hS => ?_)
  refine lv_aload_n hx hb dL_law_324 rfl (lv_at hl 2 rfl) ?_
  refine lv_aload_n hx hb dL_law_325 rfl (lv_at hl 0 rfl) ?_
  refine lv_iload_n hx hb dL_law_326 rfl (lv_at hl 3 rfl) ?_
  refine lv_iconst (v := 1) hx hb dL_law_327 (by decide) ?_
  refine lv_iadd hx hb dL_law_328 ?_
  refine va_sld hx hb hX hbl hbA hS (hin 1 (by decide)) dL_law_329 ?_
  refine lv_aload_n hx hb dL_law_330 rfl (lv_at hl 0 rfl) ?_
  refine lv_iload_n hx hb dL_law_331 rfl (lv_at hl 3 rfl) ?_
  refine lv_iconst (v := 2) hx hb dL_law_332 (by decide) ?_
  refine lv_iadd hx hb dL_law_333 ?_
  refine va_sld hx hb hX hbl hbA hS (hin 2 (by decide)) dL_law_334 ?_
  refine lv_aload_n hx hb dL_law_335 rfl (lv_at hl 0 rfl) ?_
  refine lv_iload_n hx hb dL_law_336 rfl (lv_at hl 3 rfl) ?_
  refine lv_iconst (v := 3) hx hb dL_law_337 (by decide) ?_
  refine lv_iadd hx hb dL_law_338 ?_
  refine va_sld hx hb hX hbl hbA hS (hin 3 (by decide)) dL_law_339 ?_
  refine lw_call0 (va_runV (As := [.int (xs (nI j + 1).toNatClampNeg), .int (xs (nI j + 2).toNatClampNeg), .int (xs (nI j + 3).toNatClampNeg)]) (rest := [.int r]) ⟨hx, hb, hml, hown, hts⟩ (ctX8_about l 1000 mo 0 (xs (nI j + 1).toNatClampNeg) (xs (nI j + 2).toNatClampNeg) (xs (nI j + 3).toNatClampNeg) X adm H.size _ _ e2) (cwV 3 hts gL_law_X8_about rfl rfl rfl (by decide +kernel) ⟨Nat.le_of_ble_eq_true rfl, Nat.le_of_ble_eq_true rfl⟩) (hs_preV (hs_recv hK hBm okm (by decide) rfl) hV hBm hS hA0 hA hem) rfl rfl hl.1 rfl (lv_room (Nat.le_of_ble_eq_true rfl)) dL_law_340 (show cells + 0 ≤ 600000 ∧ slots + 0 ≤ 7302250 by omega)) hBm hBx (fun i q hi hq z => hne q i hq hi z.symm) hS hA (vs := [.int r, .int r]) rfl (fun H locs hBm hBx hne2 hS => ?_)
  refine lv_icmp_eq (tgt := 794) hx hb dL_law_343 (by decide) (fun _ => ?_) (fun h => absurd rfl h)
  refine W.widen (k := cells + 27) (n := slots + 3705) (by omega) (by omega) ?_
  exact KK adx adm x2 m2 H locs ls hR2 ⟨hBx, hBm, fun i q hi hq z => hne2 q i hq hi z.symm, hex, hem⟩ hS hl
set_option maxRecDepth 100000 in
set_option maxHeartbeats 4000000 in
theorem law_set (C : lwC p s m c X b L xs) (hR : Rel k x mo) (hk : k < 512) (hI : lwI X adx adm x mo H) (hS : va_S (hs_A0 X) s.heap H locs) (hl : lwL ls b adx adm j) (hj : j + 6 ≤ L) (hL : L ≤ 3072) (hcs : cells + 27 ≤ 600000 ∧ slots + 3705 ≤ 7302250) (KK : lwK p l e s m below meth c X b j (k + 1) (cells + 27) (slots + 3705) Q) : W p l e room_1 s m #[Value.ref b] below meth c H locs cells slots Q (F0 m 348 ls []) := by
  obtain ⟨hx, hb, hml, hown, hts, hX, hbl, hV, hn0⟩ := id C
  have hK := hV.1
  have hA0 : ∀ q, hs_A0 X q → hs_A0 X q := fun _ h => h
  have hA : ∀ q, s.heap.size ≤ q → hs_A0 X q := fun q h => by unfold hs_A0; rw [hn0]; exact h
  have hbA : ¬ hs_A0 X b := by unfold hs_A0; rw [hn0]; omega
  have hin : ∀ i, i < 6 → vp_in (nI j + nI i) L := fun i hi => by rw [nI_add]; exact vp_in_nI (by omega) (by omega)
  obtain ⟨okx, okm⟩ := Rel_ok hR
  obtain ⟨r, x2, m2, e1, e2, hR2⟩ : Op k (fX7_set 1000 x 0 (xs (nI j + 1).toNatClampNeg) (xs (nI j + 2).toNatClampNeg)) (fX8_set 1000 mo 0 (xs (nI j + 1).toNatClampNeg) (xs (nI j + 2).toNatClampNeg)) := by
    obtain ⟨T, Rd, nh, st, sv, hn, hb, hp, hr, h⟩ := hR
    exact op_set h _ _
  obtain ⟨hBx, hBm, hne, hex, hem⟩ := hI
  refine lv_aload_n hx hb dL_law_348 rfl (lv_at hl 1 rfl) ?_
  refine lv_aload_n hx hb dL_law_349 rfl (lv_at hl 0 rfl) ?_
  refine lv_iload_n hx hb dL_law_350 rfl (lv_at hl 3 rfl) ?_
  refine lv_iconst (v := 1) hx hb dL_law_351 (by decide) ?_
  refine lv_iadd hx hb dL_law_352 ?_
  refine va_sld hx hb hX hbl hbA hS (hin 1 (by decide)) dL_law_353 ?_
  refine lv_aload_n hx hb dL_law_354 rfl (lv_at hl 0 rfl) ?_
  refine lv_iload_n hx hb dL_law_355 rfl (lv_at hl 3 rfl) ?_
  refine lv_iconst (v := 2) hx hb dL_law_356 (by decide) ?_
  refine lv_iadd hx hb dL_law_357 ?_
  refine va_sld hx hb hX hbl hbA hS (hin 2 (by decide)) dL_law_358 ?_
  refine lw_call0 (va_runV (As := [.int (xs (nI j + 1).toNatClampNeg), .int (xs (nI j + 2).toNatClampNeg)]) (rest := []) ⟨hx, hb, hml, hown, hts⟩ (ctX7_set l 1000 x 0 (xs (nI j + 1).toNatClampNeg) (xs (nI j + 2).toNatClampNeg) X adx H.size _ _ e1) (cwV 2 hts gL_law_X7_set rfl rfl rfl (by decide +kernel) ⟨Nat.le_of_ble_eq_true rfl, Nat.le_of_ble_eq_true rfl⟩) (hs_preV (hs_recv hK hBx okx (by decide) rfl) hV hBx hS hA0 hA hex) rfl rfl hl.1 rfl (lv_room (Nat.le_of_ble_eq_true rfl)) dL_law_359 (show cells + 0 ≤ 600000 ∧ slots + 0 ≤ 7302250 by omega)) hBx hBm hne hS hA (vs := [.int r]) rfl (fun H locs hBx hBm hne hS => ?_)
  refine lv_aload_n hx hb dL_law_362 rfl (lv_at hl 2 rfl) ?_
  refine lv_aload_n hx hb dL_law_363 rfl (lv_at hl 0 rfl) ?_
  refine lv_iload_n hx hb dL_law_364 rfl (lv_at hl 3 rfl) ?_
  refine lv_iconst (v := 1) hx hb dL_law_365 (by decide) ?_
  refine lv_iadd hx hb dL_law_366 ?_
  refine va_sld hx hb hX hbl hbA hS (hin 1 (by decide)) dL_law_367 ?_
  refine lv_aload_n hx hb dL_law_368 rfl (lv_at hl 0 rfl) ?_
  refine lv_iload_n hx hb dL_law_369 rfl (lv_at hl 3 rfl) ?_
  refine lv_iconst (v := 2) hx hb dL_law_370 (by decide) ?_
  refine lv_iadd hx hb dL_law_371 ?_
  refine va_sld hx hb hX hbl hbA hS (hin 2 (by decide)) dL_law_372 ?_
  refine lw_call0 (va_runV (As := [.int (xs (nI j + 1).toNatClampNeg), .int (xs (nI j + 2).toNatClampNeg)]) (rest := [.int r]) ⟨hx, hb, hml, hown, hts⟩ (ctX8_set l 1000 mo 0 (xs (nI j + 1).toNatClampNeg) (xs (nI j + 2).toNatClampNeg) X adm H.size _ _ e2) (cwV 2 hts gL_law_X8_set rfl rfl rfl (by decide +kernel) ⟨Nat.le_of_ble_eq_true rfl, Nat.le_of_ble_eq_true rfl⟩) (hs_preV (hs_recv hK hBm okm (by decide) rfl) hV hBm hS hA0 hA hem) rfl rfl hl.1 rfl (lv_room (Nat.le_of_ble_eq_true rfl)) dL_law_373 (show cells + 0 ≤ 600000 ∧ slots + 0 ≤ 7302250 by omega)) hBm hBx (fun i q hi hq z => hne q i hq hi z.symm) hS hA (vs := [.int r, .int r]) rfl (fun H locs hBm hBx hne2 hS => ?_)
  refine lv_icmp_eq (tgt := 794) hx hb dL_law_376 (by decide) (fun _ => ?_) (fun h => absurd rfl h)
  refine W.widen (k := cells + 27) (n := slots + 3705) (by omega) (by omega) ?_
  exact KK adx adm x2 m2 H locs ls hR2 ⟨hBx, hBm, fun i q hi hq z => hne2 q i hq hi z.symm, hex, hem⟩ hS hl
set_option maxRecDepth 100000 in
set_option maxHeartbeats 4000000 in
theorem law_letter (C : lwC p s m c X b L xs) (hR : Rel k x mo) (hk : k < 512) (hI : lwI X adx adm x mo H) (hS : va_S (hs_A0 X) s.heap H locs) (hl : lwL ls b adx adm j) (hj : j + 6 ≤ L) (hL : L ≤ 3072) (hcs : cells + 27 ≤ 600000 ∧ slots + 3705 ≤ 7302250) (KK : lwK p l e s m below meth c X b j (k + 1) (cells + 27) (slots + 3705) Q) : W p l e room_1 s m #[Value.ref b] below meth c H locs cells slots Q (F0 m 381 ls []) := by
  obtain ⟨hx, hb, hml, hown, hts, hX, hbl, hV, hn0⟩ := id C
  have hK := hV.1
  have hA0 : ∀ q, hs_A0 X q → hs_A0 X q := fun _ h => h
  have hA : ∀ q, s.heap.size ≤ q → hs_A0 X q := fun q h => by unfold hs_A0; rw [hn0]; exact h
  have hbA : ¬ hs_A0 X b := by unfold hs_A0; rw [hn0]; omega
  have hin : ∀ i, i < 6 → vp_in (nI j + nI i) L := fun i hi => by rw [nI_add]; exact vp_in_nI (by omega) (by omega)
  obtain ⟨okx, okm⟩ := Rel_ok hR
  obtain ⟨r, x2, m2, e1, e2, hR2⟩ : Op k (fX7_letter 1000 x 0 (xs (nI j + 1).toNatClampNeg) (xs (nI j + 2).toNatClampNeg) (xs (nI j + 3).toNatClampNeg) (xs (nI j + 4).toNatClampNeg) (xs (nI j + 5).toNatClampNeg)) (fX8_letter 1000 mo 0 (xs (nI j + 1).toNatClampNeg) (xs (nI j + 2).toNatClampNeg) (xs (nI j + 3).toNatClampNeg) (xs (nI j + 4).toNatClampNeg) (xs (nI j + 5).toNatClampNeg)) := by
    obtain ⟨T, Rd, nh, st, sv, hn, hb, hp, hr, h⟩ := hR
    exact op_letter (by decide) h _ _ _ _ _
  obtain ⟨hBx, hBm, hne, hex, hem⟩ := hI
  refine lv_aload_n hx hb dL_law_381 rfl (lv_at hl 1 rfl) ?_
  refine lv_aload_n hx hb dL_law_382 rfl (lv_at hl 0 rfl) ?_
  refine lv_iload_n hx hb dL_law_383 rfl (lv_at hl 3 rfl) ?_
  refine lv_iconst (v := 1) hx hb dL_law_384 (by decide) ?_
  refine lv_iadd hx hb dL_law_385 ?_
  refine va_sld hx hb hX hbl hbA hS (hin 1 (by decide)) dL_law_386 ?_
  refine lv_aload_n hx hb dL_law_387 rfl (lv_at hl 0 rfl) ?_
  refine lv_iload_n hx hb dL_law_388 rfl (lv_at hl 3 rfl) ?_
  refine lv_iconst (v := 2) hx hb dL_law_389 (by decide) ?_
  refine lv_iadd hx hb dL_law_390 ?_
  refine va_sld hx hb hX hbl hbA hS (hin 2 (by decide)) dL_law_391 ?_
  refine lv_aload_n hx hb dL_law_392 rfl (lv_at hl 0 rfl) ?_
  refine lv_iload_n hx hb dL_law_393 rfl (lv_at hl 3 rfl) ?_
  refine lv_iconst (v := 3) hx hb dL_law_394 (by decide) ?_
  refine lv_iadd hx hb dL_law_395 ?_
  refine va_sld hx hb hX hbl hbA hS (hin 3 (by decide)) dL_law_396 ?_
  refine lv_aload_n hx hb dL_law_397 rfl (lv_at hl 0 rfl) ?_
  refine lv_iload_n hx hb dL_law_398 rfl (lv_at hl 3 rfl) ?_
  refine lv_iconst (v := 4) hx hb dL_law_399 (by decide) ?_
  refine lv_iadd hx hb dL_law_400 ?_
  refine va_sld hx hb hX hbl hbA hS (hin 4 (by decide)) dL_law_401 ?_
  refine lv_aload_n hx hb dL_law_402 rfl (lv_at hl 0 rfl) ?_
  refine lv_iload_n hx hb dL_law_403 rfl (lv_at hl 3 rfl) ?_
  refine lv_iconst (v := 5) hx hb dL_law_404 (by decide) ?_
  refine lv_iadd hx hb dL_law_405 ?_
  refine va_sld hx hb hX hbl hbA hS (hin 5 (by decide)) dL_law_406 ?_
  refine lw_call0 (va_runV (As := [.int (xs (nI j + 1).toNatClampNeg), .int (xs (nI j + 2).toNatClampNeg), .int (xs (nI j + 3).toNatClampNeg), .int (xs (nI j + 4).toNatClampNeg), .int (xs (nI j + 5).toNatClampNeg)]) (rest := []) ⟨hx, hb, hml, hown, hts⟩ (ctX7_letter l 1000 x 0 (xs (nI j + 1).toNatClampNeg) (xs (nI j + 2).toNatClampNeg) (xs (nI j + 3).toNatClampNeg) (xs (nI j + 4).toNatClampNeg) (xs (nI j + 5).toNatClampNeg) X adx H.size _ _ e1) (cwV 5 hts gL_law_X7_letter rfl rfl rfl (by decide +kernel) ⟨Nat.le_of_ble_eq_true rfl, Nat.le_of_ble_eq_true rfl⟩) (hs_preV (hs_recv hK hBx okx (by decide) rfl) hV hBx hS hA0 hA hex) rfl rfl hl.1 rfl (lv_room (Nat.le_of_ble_eq_true rfl)) dL_law_407 (show cells + 0 ≤ 600000 ∧ slots + 0 ≤ 7302250 by omega)) hBx hBm hne hS hA (vs := [.int r]) rfl (fun H locs hBx hBm hne hS => ?_)
  refine lv_aload_n hx hb dL_law_410 rfl (lv_at hl 2 rfl) ?_
  refine lv_aload_n hx hb dL_law_411 rfl (lv_at hl 0 rfl) ?_
  refine lv_iload_n hx hb dL_law_412 rfl (lv_at hl 3 rfl) ?_
  refine lv_iconst (v := 1) hx hb dL_law_413 (by decide) ?_
  refine lv_iadd hx hb dL_law_414 ?_
  refine va_sld hx hb hX hbl hbA hS (hin 1 (by decide)) dL_law_415 ?_
  refine lv_aload_n hx hb dL_law_416 rfl (lv_at hl 0 rfl) ?_
  refine lv_iload_n hx hb dL_law_417 rfl (lv_at hl 3 rfl) ?_
  refine lv_iconst (v := 2) hx hb dL_law_418 (by decide) ?_
  refine lv_iadd hx hb dL_law_419 ?_
  refine va_sld hx hb hX hbl hbA hS (hin 2 (by decide)) dL_law_420 ?_
  refine lv_aload_n hx hb dL_law_421 rfl (lv_at hl 0 rfl) ?_
  refine lv_iload_n hx hb dL_law_422 rfl (lv_at hl 3 rfl) ?_
  refine lv_iconst (v := 3) hx hb dL_law_423 (by decide) ?_
  refine lv_iadd hx hb dL_law_424 ?_
  refine va_sld hx hb hX hbl hbA hS (hin 3 (by decide)) dL_law_425 ?_
  refine lv_aload_n hx hb dL_law_426 rfl (lv_at hl 0 rfl) ?_
  refine lv_iload_n hx hb dL_law_427 rfl (lv_at hl 3 rfl) ?_
  refine lv_iconst (v := 4) hx hb dL_law_428 (by decide) ?_
  refine lv_iadd hx hb dL_law_429 ?_
  refine va_sld hx hb hX hbl hbA hS (hin 4 (by decide)) dL_law_430 ?_
  refine lv_aload_n hx hb dL_law_431 rfl (lv_at hl 0 rfl) ?_
  refine lv_iload_n hx hb dL_law_432 rfl (lv_at hl 3 rfl) ?_
  refine lv_iconst (v := 5) hx hb dL_law_433 (by decide) ?_
  refine lv_iadd hx hb dL_law_434 ?_
  refine va_sld hx hb hX hbl hbA hS (hin 5 (by decide)) dL_law_435 ?_
  refine lw_call0 (va_runV (As := [.int (xs (nI j + 1).toNatClampNeg), .int (xs (nI j + 2).toNatClampNeg), .int (xs (nI j + 3).toNatClampNeg), .int (xs (nI j + 4).toNatClampNeg), .int (xs (nI j + 5).toNatClampNeg)]) (rest := [.int r]) ⟨hx, hb, hml, hown, hts⟩ (ctX8_letter l 1000 mo 0 (xs (nI j + 1).toNatClampNeg) (xs (nI j + 2).toNatClampNeg) (xs (nI j + 3).toNatClampNeg) (xs (nI j + 4).toNatClampNeg) (xs (nI j + 5).toNatClampNeg) X adm H.size _ _ e2) (cwV 5 hts gL_law_X8_letter rfl rfl rfl (by decide +kernel) ⟨Nat.le_of_ble_eq_true rfl, Nat.le_of_ble_eq_true rfl⟩) (hs_preV (hs_recv hK hBm okm (by decide) rfl) hV hBm hS hA0 hA hem) rfl rfl hl.1 rfl (lv_room (Nat.le_of_ble_eq_true rfl)) dL_law_436 (show cells + 0 ≤ 600000 ∧ slots + 0 ≤ 7302250 by omega)) hBm hBx (fun i q hi hq z => hne q i hq hi z.symm) hS hA (vs := [.int r, .int r]) rfl (fun H locs hBm hBx hne2 hS => ?_)
  refine lv_icmp_eq (tgt := 794) hx hb dL_law_439 (by decide) (fun _ => ?_) (fun h => absurd rfl h)
  refine W.widen (k := cells + 27) (n := slots + 3705) (by omega) (by omega) ?_
  exact KK adx adm x2 m2 H locs ls hR2 ⟨hBx, hBm, fun i q hi hq z => hne2 q i hq hi z.symm, hex, hem⟩ hS hl
set_option maxRecDepth 100000 in
set_option maxHeartbeats 4000000 in
theorem law_round (C : lwC p s m c X b L xs) (hR : Rel k x mo) (hk : k < 512) (hI : lwI X adx adm x mo H) (hS : va_S (hs_A0 X) s.heap H locs) (hl : lwL ls b adx adm j) (hj : j + 6 ≤ L) (hL : L ≤ 3072) (hcs : cells + 27 ≤ 600000 ∧ slots + 3705 ≤ 7302250) (KK : lwK p l e s m below meth c X b j (k + 1) (cells + 27) (slots + 3705) Q) : W p l e room_1 s m #[Value.ref b] below meth c H locs cells slots Q (F0 m 444 ls []) := by
  obtain ⟨hx, hb, hml, hown, hts, hX, hbl, hV, hn0⟩ := id C
  have hK := hV.1
  have hA0 : ∀ q, hs_A0 X q → hs_A0 X q := fun _ h => h
  have hA : ∀ q, s.heap.size ≤ q → hs_A0 X q := fun q h => by unfold hs_A0; rw [hn0]; exact h
  have hbA : ¬ hs_A0 X b := by unfold hs_A0; rw [hn0]; omega
  have hin : ∀ i, i < 6 → vp_in (nI j + nI i) L := fun i hi => by rw [nI_add]; exact vp_in_nI (by omega) (by omega)
  obtain ⟨okx, okm⟩ := Rel_ok hR
  obtain ⟨r, x2, m2, e1, e2, hR2⟩ : Op k (fX7_round 1000 x 0 ) (fX8_round 1000 mo 0 ) := by
    obtain ⟨T, Rd, nh, st, sv, hn, hb, hp, hr, h⟩ := hR
    exact op_round (by decide) h
  obtain ⟨hBx, hBm, hne, hex, hem⟩ := hI
  refine lv_aload_n hx hb dL_law_444 rfl (lv_at hl 1 rfl) ?_
  refine lw_call0 (va_runV (As := []) (rest := []) ⟨hx, hb, hml, hown, hts⟩ (ctX7_round l 1000 x 0  X adx H.size _ _ e1) (cwV 0 hts gL_law_X7_round rfl rfl rfl (by decide +kernel) ⟨Nat.le_of_ble_eq_true rfl, Nat.le_of_ble_eq_true rfl⟩) (hs_preV (hs_recv hK hBx okx (by decide) rfl) hV hBx hS hA0 hA hex) rfl rfl hl.1 rfl (lv_room (Nat.le_of_ble_eq_true rfl)) dL_law_445 (show cells + 0 ≤ 600000 ∧ slots + 0 ≤ 7302250 by omega)) hBx hBm hne hS hA (vs := [.int r]) rfl (fun H locs hBx hBm hne hS => ?_)
  refine lv_aload_n hx hb dL_law_448 rfl (lv_at hl 2 rfl) ?_
  refine lw_call0 (va_runV (As := []) (rest := [.int r]) ⟨hx, hb, hml, hown, hts⟩ (ctX8_round l 1000 mo 0  X adm H.size _ _ e2) (cwV 0 hts gL_law_X8_round rfl rfl rfl (by decide +kernel) ⟨Nat.le_of_ble_eq_true rfl, Nat.le_of_ble_eq_true rfl⟩) (hs_preV (hs_recv hK hBm okm (by decide) rfl) hV hBm hS hA0 hA hem) rfl rfl hl.1 rfl (lv_room (Nat.le_of_ble_eq_true rfl)) dL_law_449 (show cells + 0 ≤ 600000 ∧ slots + 0 ≤ 7302250 by omega)) hBm hBx (fun i q hi hq z => hne q i hq hi z.symm) hS hA (vs := [.int r, .int r]) rfl (fun H locs hBm hBx hne2 hS => ?_)
  refine lv_icmp_eq (tgt := 794) hx hb dL_law_452 (by decide) (fun _ => ?_) (fun h => absurd rfl h)
  refine W.widen (k := cells + 27) (n := slots + 3705) (by omega) (by omega) ?_
  exact KK adx adm x2 m2 H locs ls hR2 ⟨hBx, hBm, fun i q hi hq z => hne2 q i hq hi z.symm, hex, hem⟩ hS hl
set_option maxRecDepth 100000 in
set_option maxHeartbeats 4000000 in
theorem law_up (C : lwC p s m c X b L xs) (hR : Rel k x mo) (hk : k < 512) (hI : lwI X adx adm x mo H) (hS : va_S (hs_A0 X) s.heap H locs) (hl : lwL ls b adx adm j) (hj : j + 6 ≤ L) (hL : L ≤ 3072) (hcs : cells + 27 ≤ 600000 ∧ slots + 3705 ≤ 7302250) (KK : lwK p l e s m below meth c X b j (k + 1) (cells + 27) (slots + 3705) Q) : W p l e room_1 s m #[Value.ref b] below meth c H locs cells slots Q (F0 m 457 ls []) := by
  obtain ⟨hx, hb, hml, hown, hts, hX, hbl, hV, hn0⟩ := id C
  have hK := hV.1
  have hA0 : ∀ q, hs_A0 X q → hs_A0 X q := fun _ h => h
  have hA : ∀ q, s.heap.size ≤ q → hs_A0 X q := fun q h => by unfold hs_A0; rw [hn0]; exact h
  have hbA : ¬ hs_A0 X b := by unfold hs_A0; rw [hn0]; omega
  have hin : ∀ i, i < 6 → vp_in (nI j + nI i) L := fun i hi => by rw [nI_add]; exact vp_in_nI (by omega) (by omega)
  obtain ⟨okx, okm⟩ := Rel_ok hR
  obtain ⟨r, x2, m2, e1, e2, hR2⟩ : Op k (fX7_up 1000 x 0 (xs (nI j + 1).toNatClampNeg) (xs (nI j + 2).toNatClampNeg) (xs (nI j + 3).toNatClampNeg)) (fX8_up 1000 mo 0 (xs (nI j + 1).toNatClampNeg) (xs (nI j + 2).toNatClampNeg) (xs (nI j + 3).toNatClampNeg)) := by
    obtain ⟨T, Rd, nh, st, sv, hn, hb, hp, hr, h⟩ := hR
    exact Op_same h (op_up h _ _ _)
  obtain ⟨hBx, hBm, hne, hex, hem⟩ := hI
  refine lv_aload_n hx hb dL_law_457 rfl (lv_at hl 1 rfl) ?_
  refine lv_aload_n hx hb dL_law_458 rfl (lv_at hl 0 rfl) ?_
  refine lv_iload_n hx hb dL_law_459 rfl (lv_at hl 3 rfl) ?_
  refine lv_iconst (v := 1) hx hb dL_law_460 (by decide) ?_
  refine lv_iadd hx hb dL_law_461 ?_
  refine va_sld hx hb hX hbl hbA hS (hin 1 (by decide)) dL_law_462 ?_
  refine lv_aload_n hx hb dL_law_463 rfl (lv_at hl 0 rfl) ?_
  refine lv_iload_n hx hb dL_law_464 rfl (lv_at hl 3 rfl) ?_
  refine lv_iconst (v := 2) hx hb dL_law_465 (by decide) ?_
  refine lv_iadd hx hb dL_law_466 ?_
  refine va_sld hx hb hX hbl hbA hS (hin 2 (by decide)) dL_law_467 ?_
  refine lv_aload_n hx hb dL_law_468 rfl (lv_at hl 0 rfl) ?_
  refine lv_iload_n hx hb dL_law_469 rfl (lv_at hl 3 rfl) ?_
  refine lv_iconst (v := 3) hx hb dL_law_470 (by decide) ?_
  refine lv_iadd hx hb dL_law_471 ?_
  refine va_sld hx hb hX hbl hbA hS (hin 3 (by decide)) dL_law_472 ?_
  refine lw_call0 (va_runV (As := [.int (xs (nI j + 1).toNatClampNeg), .int (xs (nI j + 2).toNatClampNeg), .int (xs (nI j + 3).toNatClampNeg)]) (rest := []) ⟨hx, hb, hml, hown, hts⟩ (ctX7_up l 1000 x 0 (xs (nI j + 1).toNatClampNeg) (xs (nI j + 2).toNatClampNeg) (xs (nI j + 3).toNatClampNeg) X adx H.size _ _ e1) (cwV 3 hts gL_law_X7_up rfl rfl rfl (by decide +kernel) ⟨Nat.le_of_ble_eq_true rfl, Nat.le_of_ble_eq_true rfl⟩) (hs_preV (hs_recv hK hBx okx (by decide) rfl) hV hBx hS hA0 hA hex) rfl rfl hl.1 rfl (lv_room (Nat.le_of_ble_eq_true rfl)) dL_law_473 (show cells + 0 ≤ 600000 ∧ slots + 0 ≤ 7302250 by omega)) hBx hBm hne hS hA (vs := [.int r]) rfl (fun H locs hBx hBm hne hS => ?_)
  refine lv_aload_n hx hb dL_law_476 rfl (lv_at hl 2 rfl) ?_
  refine lv_aload_n hx hb dL_law_477 rfl (lv_at hl 0 rfl) ?_
  refine lv_iload_n hx hb dL_law_478 rfl (lv_at hl 3 rfl) ?_
  refine lv_iconst (v := 1) hx hb dL_law_479 (by decide) ?_
  refine lv_iadd hx hb dL_law_480 ?_
  refine va_sld hx hb hX hbl hbA hS (hin 1 (by decide)) dL_law_481 ?_
  refine lv_aload_n hx hb dL_law_482 rfl (lv_at hl 0 rfl) ?_
  refine lv_iload_n hx hb dL_law_483 rfl (lv_at hl 3 rfl) ?_
  refine lv_iconst (v := 2) hx hb dL_law_484 (by decide) ?_
  refine lv_iadd hx hb dL_law_485 ?_
  refine va_sld hx hb hX hbl hbA hS (hin 2 (by decide)) dL_law_486 ?_
  refine lv_aload_n hx hb dL_law_487 rfl (lv_at hl 0 rfl) ?_
  refine lv_iload_n hx hb dL_law_488 rfl (lv_at hl 3 rfl) ?_
  refine lv_iconst (v := 3) hx hb dL_law_489 (by decide) ?_
  refine lv_iadd hx hb dL_law_490 ?_
  refine va_sld hx hb hX hbl hbA hS (hin 3 (by decide)) dL_law_491 ?_
  refine lw_call0 (va_runV (As := [.int (xs (nI j + 1).toNatClampNeg), .int (xs (nI j + 2).toNatClampNeg), .int (xs (nI j + 3).toNatClampNeg)]) (rest := [.int r]) ⟨hx, hb, hml, hown, hts⟩ (ctX8_up l 1000 mo 0 (xs (nI j + 1).toNatClampNeg) (xs (nI j + 2).toNatClampNeg) (xs (nI j + 3).toNatClampNeg) X adm H.size _ _ e2) (cwV 3 hts gL_law_X8_up rfl rfl rfl (by decide +kernel) ⟨Nat.le_of_ble_eq_true rfl, Nat.le_of_ble_eq_true rfl⟩) (hs_preV (hs_recv hK hBm okm (by decide) rfl) hV hBm hS hA0 hA hem) rfl rfl hl.1 rfl (lv_room (Nat.le_of_ble_eq_true rfl)) dL_law_492 (show cells + 0 ≤ 600000 ∧ slots + 0 ≤ 7302250 by omega)) hBm hBx (fun i q hi hq z => hne q i hq hi z.symm) hS hA (vs := [.int r, .int r]) rfl (fun H locs hBm hBx hne2 hS => ?_)
  refine lv_icmp_eq (tgt := 794) hx hb dL_law_495 (by decide) (fun _ => ?_) (fun h => absurd rfl h)
  refine W.widen (k := cells + 27) (n := slots + 3705) (by omega) (by omega) ?_
  exact KK adx adm x2 m2 H locs ls hR2 ⟨hBx, hBm, fun i q hi hq z => hne2 q i hq hi z.symm, hex, hem⟩ hS hl
set_option maxRecDepth 100000 in
set_option maxHeartbeats 4000000 in
theorem law_check (C : lwC p s m c X b L xs) (hR : Rel k x mo) (hk : k < 512) (hI : lwI X adx adm x mo H) (hS : va_S (hs_A0 X) s.heap H locs) (hl : lwL ls b adx adm j) (hj : j + 6 ≤ L) (hL : L ≤ 3072) (hcs : cells + 27 ≤ 600000 ∧ slots + 3705 ≤ 7302250) (KK : lwK p l e s m below meth c X b j (k + 1) (cells + 27) (slots + 3705) Q) : W p l e room_1 s m #[Value.ref b] below meth c H locs cells slots Q (F0 m 500 ls []) := by
  obtain ⟨hx, hb, hml, hown, hts, hX, hbl, hV, hn0⟩ := id C
  have hK := hV.1
  have hA0 : ∀ q, hs_A0 X q → hs_A0 X q := fun _ h => h
  have hA : ∀ q, s.heap.size ≤ q → hs_A0 X q := fun q h => by unfold hs_A0; rw [hn0]; exact h
  have hbA : ¬ hs_A0 X b := by unfold hs_A0; rw [hn0]; omega
  have hin : ∀ i, i < 6 → vp_in (nI j + nI i) L := fun i hi => by rw [nI_add]; exact vp_in_nI (by omega) (by omega)
  obtain ⟨okx, okm⟩ := Rel_ok hR
  obtain ⟨r, x2, m2, e1, e2, hR2⟩ : Op k (fX7_check 1000 x 0 (xs (nI j + 1).toNatClampNeg) (xs (nI j + 2).toNatClampNeg) (xs (nI j + 3).toNatClampNeg) (xs (nI j + 4).toNatClampNeg)) (fX8_check 1000 mo 0 (xs (nI j + 1).toNatClampNeg) (xs (nI j + 2).toNatClampNeg) (xs (nI j + 3).toNatClampNeg) (xs (nI j + 4).toNatClampNeg)) := by
    obtain ⟨T, Rd, nh, st, sv, hn, hb, hp, hr, h⟩ := hR
    exact Op_same h (op_check h _ _ _ _)
  obtain ⟨hBx, hBm, hne, hex, hem⟩ := hI
  refine lv_aload_n hx hb dL_law_500 rfl (lv_at hl 1 rfl) ?_
  refine lv_aload_n hx hb dL_law_501 rfl (lv_at hl 0 rfl) ?_
  refine lv_iload_n hx hb dL_law_502 rfl (lv_at hl 3 rfl) ?_
  refine lv_iconst (v := 1) hx hb dL_law_503 (by decide) ?_
  refine lv_iadd hx hb dL_law_504 ?_
  refine va_sld hx hb hX hbl hbA hS (hin 1 (by decide)) dL_law_505 ?_
  refine lv_aload_n hx hb dL_law_506 rfl (lv_at hl 0 rfl) ?_
  refine lv_iload_n hx hb dL_law_507 rfl (lv_at hl 3 rfl) ?_
  refine lv_iconst (v := 2) hx hb dL_law_508 (by decide) ?_
  refine lv_iadd hx hb dL_law_509 ?_
  refine va_sld hx hb hX hbl hbA hS (hin 2 (by decide)) dL_law_510 ?_
  refine lv_aload_n hx hb dL_law_511 rfl (lv_at hl 0 rfl) ?_
  refine lv_iload_n hx hb dL_law_512 rfl (lv_at hl 3 rfl) ?_
  refine lv_iconst (v := 3) hx hb dL_law_513 (by decide) ?_
  refine lv_iadd hx hb dL_law_514 ?_
  refine va_sld hx hb hX hbl hbA hS (hin 3 (by decide)) dL_law_515 ?_
  refine lv_aload_n hx hb dL_law_516 rfl (lv_at hl 0 rfl) ?_
  refine lv_iload_n hx hb dL_law_517 rfl (lv_at hl 3 rfl) ?_
  refine lv_iconst (v := 4) hx hb dL_law_518 (by decide) ?_
  refine lv_iadd hx hb dL_law_519 ?_
  refine va_sld hx hb hX hbl hbA hS (hin 4 (by decide)) dL_law_520 ?_
  refine lw_call0 (va_runV (As := [.int (xs (nI j + 1).toNatClampNeg), .int (xs (nI j + 2).toNatClampNeg), .int (xs (nI j + 3).toNatClampNeg), .int (xs (nI j + 4).toNatClampNeg)]) (rest := []) ⟨hx, hb, hml, hown, hts⟩ (ctX7_check l 1000 x 0 (xs (nI j + 1).toNatClampNeg) (xs (nI j + 2).toNatClampNeg) (xs (nI j + 3).toNatClampNeg) (xs (nI j + 4).toNatClampNeg) X adx H.size _ _ e1) (cwV 4 hts gL_law_X7_check rfl rfl rfl (by decide +kernel) ⟨Nat.le_of_ble_eq_true rfl, Nat.le_of_ble_eq_true rfl⟩) (hs_preV (hs_recv hK hBx okx (by decide) rfl) hV hBx hS hA0 hA hex) rfl rfl hl.1 rfl (lv_room (Nat.le_of_ble_eq_true rfl)) dL_law_521 (show cells + 0 ≤ 600000 ∧ slots + 0 ≤ 7302250 by omega)) hBx hBm hne hS hA (vs := [.int r]) rfl (fun H locs hBx hBm hne hS => ?_)
  refine lv_aload_n hx hb dL_law_524 rfl (lv_at hl 2 rfl) ?_
  refine lv_aload_n hx hb dL_law_525 rfl (lv_at hl 0 rfl) ?_
  refine lv_iload_n hx hb dL_law_526 rfl (lv_at hl 3 rfl) ?_
  refine lv_iconst (v := 1) hx hb dL_law_527 (by decide) ?_
  refine lv_iadd hx hb dL_law_528 ?_
  refine va_sld hx hb hX hbl hbA hS (hin 1 (by decide)) dL_law_529 ?_
  refine lv_aload_n hx hb dL_law_530 rfl (lv_at hl 0 rfl) ?_
  refine lv_iload_n hx hb dL_law_531 rfl (lv_at hl 3 rfl) ?_
  refine lv_iconst (v := 2) hx hb dL_law_532 (by decide) ?_
  refine lv_iadd hx hb dL_law_533 ?_
  refine va_sld hx hb hX hbl hbA hS (hin 2 (by decide)) dL_law_534 ?_
  refine lv_aload_n hx hb dL_law_535 rfl (lv_at hl 0 rfl) ?_
  refine lv_iload_n hx hb dL_law_536 rfl (lv_at hl 3 rfl) ?_
  refine lv_iconst (v := 3) hx hb dL_law_537 (by decide) ?_
  refine lv_iadd hx hb dL_law_538 ?_
  refine va_sld hx hb hX hbl hbA hS (hin 3 (by decide)) dL_law_539 ?_
  refine lv_aload_n hx hb dL_law_540 rfl (lv_at hl 0 rfl) ?_
  refine lv_iload_n hx hb dL_law_541 rfl (lv_at hl 3 rfl) ?_
  refine lv_iconst (v := 4) hx hb dL_law_542 (by decide) ?_
  refine lv_iadd hx hb dL_law_543 ?_
  refine va_sld hx hb hX hbl hbA hS (hin 4 (by decide)) dL_law_544 ?_
  refine lw_call0 (va_runV (As := [.int (xs (nI j + 1).toNatClampNeg), .int (xs (nI j + 2).toNatClampNeg), .int (xs (nI j + 3).toNatClampNeg), .int (xs (nI j + 4).toNatClampNeg)]) (rest := [.int r]) ⟨hx, hb, hml, hown, hts⟩ (ctX8_check l 1000 mo 0 (xs (nI j + 1).toNatClampNeg) (xs (nI j + 2).toNatClampNeg) (xs (nI j + 3).toNatClampNeg) (xs (nI j + 4).toNatClampNeg) X adm H.size _ _ e2) (cwV 4 hts gL_law_X8_check rfl rfl rfl (by decide +kernel) ⟨Nat.le_of_ble_eq_true rfl, Nat.le_of_ble_eq_true rfl⟩) (hs_preV (hs_recv hK hBm okm (by decide) rfl) hV hBm hS hA0 hA hem) rfl rfl hl.1 rfl (lv_room (Nat.le_of_ble_eq_true rfl)) dL_law_545 (show cells + 0 ≤ 600000 ∧ slots + 0 ≤ 7302250 by omega)) hBm hBx (fun i q hi hq z => hne q i hq hi z.symm) hS hA (vs := [.int r, .int r]) rfl (fun H locs hBm hBx hne2 hS => ?_)
  refine lv_icmp_eq (tgt := 794) hx hb dL_law_548 (by decide) (fun _ => ?_) (fun h => absurd rfl h)
  refine W.widen (k := cells + 27) (n := slots + 3705) (by omega) (by omega) ?_
  exact KK adx adm x2 m2 H locs ls hR2 ⟨hBx, hBm, fun i q hi hq z => hne2 q i hq hi z.symm, hex, hem⟩ hS hl
set_option maxRecDepth 100000 in
set_option maxHeartbeats 4000000 in
theorem law_flag (C : lwC p s m c X b L xs) (hR : Rel k x mo) (hk : k < 512) (hI : lwI X adx adm x mo H) (hS : va_S (hs_A0 X) s.heap H locs) (hl : lwL ls b adx adm j) (hj : j + 6 ≤ L) (hL : L ≤ 3072) (hcs : cells + 27 ≤ 600000 ∧ slots + 3705 ≤ 7302250) (KK : lwK p l e s m below meth c X b j (k + 1) (cells + 27) (slots + 3705) Q) : W p l e room_1 s m #[Value.ref b] below meth c H locs cells slots Q (F0 m 553 ls []) := by
  obtain ⟨hx, hb, hml, hown, hts, hX, hbl, hV, hn0⟩ := id C
  have hK := hV.1
  have hA0 : ∀ q, hs_A0 X q → hs_A0 X q := fun _ h => h
  have hA : ∀ q, s.heap.size ≤ q → hs_A0 X q := fun q h => by unfold hs_A0; rw [hn0]; exact h
  have hbA : ¬ hs_A0 X b := by unfold hs_A0; rw [hn0]; omega
  have hin : ∀ i, i < 6 → vp_in (nI j + nI i) L := fun i hi => by rw [nI_add]; exact vp_in_nI (by omega) (by omega)
  obtain ⟨okx, okm⟩ := Rel_ok hR
  obtain ⟨r, x2, m2, e1, e2, hR2⟩ : Op k (fX7_flag 1000 x 0 (xs (nI j + 1).toNatClampNeg) (xs (nI j + 2).toNatClampNeg) (xs (nI j + 3).toNatClampNeg)) (fX8_flag 1000 mo 0 (xs (nI j + 1).toNatClampNeg) (xs (nI j + 2).toNatClampNeg) (xs (nI j + 3).toNatClampNeg)) := by
    obtain ⟨T, Rd, nh, st, sv, hn, hb, hp, hr, h⟩ := hR
    exact Op_same h (op_flag h _ _ _)
  obtain ⟨hBx, hBm, hne, hex, hem⟩ := hI
  refine lv_aload_n hx hb dL_law_553 rfl (lv_at hl 1 rfl) ?_
  refine lv_aload_n hx hb dL_law_554 rfl (lv_at hl 0 rfl) ?_
  refine lv_iload_n hx hb dL_law_555 rfl (lv_at hl 3 rfl) ?_
  refine lv_iconst (v := 1) hx hb dL_law_556 (by decide) ?_
  refine lv_iadd hx hb dL_law_557 ?_
  refine va_sld hx hb hX hbl hbA hS (hin 1 (by decide)) dL_law_558 ?_
  refine lv_aload_n hx hb dL_law_559 rfl (lv_at hl 0 rfl) ?_
  refine lv_iload_n hx hb dL_law_560 rfl (lv_at hl 3 rfl) ?_
  refine lv_iconst (v := 2) hx hb dL_law_561 (by decide) ?_
  refine lv_iadd hx hb dL_law_562 ?_
  refine va_sld hx hb hX hbl hbA hS (hin 2 (by decide)) dL_law_563 ?_
  refine lv_aload_n hx hb dL_law_564 rfl (lv_at hl 0 rfl) ?_
  refine lv_iload_n hx hb dL_law_565 rfl (lv_at hl 3 rfl) ?_
  refine lv_iconst (v := 3) hx hb dL_law_566 (by decide) ?_
  refine lv_iadd hx hb dL_law_567 ?_
  refine va_sld hx hb hX hbl hbA hS (hin 3 (by decide)) dL_law_568 ?_
  refine lw_call0 (va_runV (As := [.int (xs (nI j + 1).toNatClampNeg), .int (xs (nI j + 2).toNatClampNeg), .int (xs (nI j + 3).toNatClampNeg)]) (rest := []) ⟨hx, hb, hml, hown, hts⟩ (ctX7_flag l 1000 x 0 (xs (nI j + 1).toNatClampNeg) (xs (nI j + 2).toNatClampNeg) (xs (nI j + 3).toNatClampNeg) X adx H.size _ _ e1) (cwV 3 hts gL_law_X7_flag rfl rfl rfl (by decide +kernel) ⟨Nat.le_of_ble_eq_true rfl, Nat.le_of_ble_eq_true rfl⟩) (hs_preV (hs_recv hK hBx okx (by decide) rfl) hV hBx hS hA0 hA hex) rfl rfl hl.1 rfl (lv_room (Nat.le_of_ble_eq_true rfl)) dL_law_569 (show cells + 0 ≤ 600000 ∧ slots + 0 ≤ 7302250 by omega)) hBx hBm hne hS hA (vs := [.int r]) rfl (fun H locs hBx hBm hne hS => ?_)
  refine lv_aload_n hx hb dL_law_572 rfl (lv_at hl 2 rfl) ?_
  refine lv_aload_n hx hb dL_law_573 rfl (lv_at hl 0 rfl) ?_
  refine lv_iload_n hx hb dL_law_574 rfl (lv_at hl 3 rfl) ?_
  refine lv_iconst (v := 1) hx hb dL_law_575 (by decide) ?_
  refine lv_iadd hx hb dL_law_576 ?_
  refine va_sld hx hb hX hbl hbA hS (hin 1 (by decide)) dL_law_577 ?_
  refine lv_aload_n hx hb dL_law_578 rfl (lv_at hl 0 rfl) ?_
  refine lv_iload_n hx hb dL_law_579 rfl (lv_at hl 3 rfl) ?_
  refine lv_iconst (v := 2) hx hb dL_law_580 (by decide) ?_
  refine lv_iadd hx hb dL_law_581 ?_
  refine va_sld hx hb hX hbl hbA hS (hin 2 (by decide)) dL_law_582 ?_
  refine lv_aload_n hx hb dL_law_583 rfl (lv_at hl 0 rfl) ?_
  refine lv_iload_n hx hb dL_law_584 rfl (lv_at hl 3 rfl) ?_
  refine lv_iconst (v := 3) hx hb dL_law_585 (by decide) ?_
  refine lv_iadd hx hb dL_law_586 ?_
  refine va_sld hx hb hX hbl hbA hS (hin 3 (by decide)) dL_law_587 ?_
  refine lw_call0 (va_runV (As := [.int (xs (nI j + 1).toNatClampNeg), .int (xs (nI j + 2).toNatClampNeg), .int (xs (nI j + 3).toNatClampNeg)]) (rest := [.int r]) ⟨hx, hb, hml, hown, hts⟩ (ctX8_flag l 1000 mo 0 (xs (nI j + 1).toNatClampNeg) (xs (nI j + 2).toNatClampNeg) (xs (nI j + 3).toNatClampNeg) X adm H.size _ _ e2) (cwV 3 hts gL_law_X8_flag rfl rfl rfl (by decide +kernel) ⟨Nat.le_of_ble_eq_true rfl, Nat.le_of_ble_eq_true rfl⟩) (hs_preV (hs_recv hK hBm okm (by decide) rfl) hV hBm hS hA0 hA hem) rfl rfl hl.1 rfl (lv_room (Nat.le_of_ble_eq_true rfl)) dL_law_588 (show cells + 0 ≤ 600000 ∧ slots + 0 ≤ 7302250 by omega)) hBm hBx (fun i q hi hq z => hne q i hq hi z.symm) hS hA (vs := [.int r, .int r]) rfl (fun H locs hBm hBx hne2 hS => ?_)
  refine lv_icmp_eq (tgt := 794) hx hb dL_law_591 (by decide) (fun _ => ?_) (fun h => absurd rfl h)
  refine W.widen (k := cells + 27) (n := slots + 3705) (by omega) (by omega) ?_
  exact KK adx adm x2 m2 H locs ls hR2 ⟨hBx, hBm, fun i q hi hq z => hne2 q i hq hi z.symm, hex, hem⟩ hS hl
set_option maxRecDepth 100000 in
set_option maxHeartbeats 4000000 in
theorem law_hand (C : lwC p s m c X b L xs) (hR : Rel k x mo) (hk : k < 512) (hI : lwI X adx adm x mo H) (hS : va_S (hs_A0 X) s.heap H locs) (hl : lwL ls b adx adm j) (hj : j + 6 ≤ L) (hL : L ≤ 3072) (hcs : cells + 27 ≤ 600000 ∧ slots + 3705 ≤ 7302250) (KK : lwK p l e s m below meth c X b j (k + 1) (cells + 27) (slots + 3705) Q) : W p l e room_1 s m #[Value.ref b] below meth c H locs cells slots Q (F0 m 596 ls []) := by
  obtain ⟨hx, hb, hml, hown, hts, hX, hbl, hV, hn0⟩ := id C
  have hK := hV.1
  have hA0 : ∀ q, hs_A0 X q → hs_A0 X q := fun _ h => h
  have hA : ∀ q, s.heap.size ≤ q → hs_A0 X q := fun q h => by unfold hs_A0; rw [hn0]; exact h
  have hbA : ¬ hs_A0 X b := by unfold hs_A0; rw [hn0]; omega
  have hin : ∀ i, i < 6 → vp_in (nI j + nI i) L := fun i hi => by rw [nI_add]; exact vp_in_nI (by omega) (by omega)
  obtain ⟨okx, okm⟩ := Rel_ok hR
  obtain ⟨r, x2, m2, e1, e2, hR2⟩ : Op k (fX7_hand 1000 x 0 (xs (nI j + 1).toNatClampNeg) (xs (nI j + 2).toNatClampNeg) (xs (nI j + 3).toNatClampNeg) (xs (nI j + 4).toNatClampNeg)) (fX8_hand 1000 mo 0 (xs (nI j + 1).toNatClampNeg) (xs (nI j + 2).toNatClampNeg) (xs (nI j + 3).toNatClampNeg) (xs (nI j + 4).toNatClampNeg)) := by
    obtain ⟨T, Rd, nh, st, sv, hn, hb, hp, hr, h⟩ := hR
    exact op_hand hk (by decide) h _ _ _ _
  obtain ⟨hBx, hBm, hne, hex, hem⟩ := hI
  refine lv_aload_n hx hb dL_law_596 rfl (lv_at hl 1 rfl) ?_
  refine lv_aload_n hx hb dL_law_597 rfl (lv_at hl 0 rfl) ?_
  refine lv_iload_n hx hb dL_law_598 rfl (lv_at hl 3 rfl) ?_
  refine lv_iconst (v := 1) hx hb dL_law_599 (by decide) ?_
  refine lv_iadd hx hb dL_law_600 ?_
  refine va_sld hx hb hX hbl hbA hS (hin 1 (by decide)) dL_law_601 ?_
  refine lv_aload_n hx hb dL_law_602 rfl (lv_at hl 0 rfl) ?_
  refine lv_iload_n hx hb dL_law_603 rfl (lv_at hl 3 rfl) ?_
  refine lv_iconst (v := 2) hx hb dL_law_604 (by decide) ?_
  refine lv_iadd hx hb dL_law_605 ?_
  refine va_sld hx hb hX hbl hbA hS (hin 2 (by decide)) dL_law_606 ?_
  refine lv_aload_n hx hb dL_law_607 rfl (lv_at hl 0 rfl) ?_
  refine lv_iload_n hx hb dL_law_608 rfl (lv_at hl 3 rfl) ?_
  refine lv_iconst (v := 3) hx hb dL_law_609 (by decide) ?_
  refine lv_iadd hx hb dL_law_610 ?_
  refine va_sld hx hb hX hbl hbA hS (hin 3 (by decide)) dL_law_611 ?_
  refine lv_aload_n hx hb dL_law_612 rfl (lv_at hl 0 rfl) ?_
  refine lv_iload_n hx hb dL_law_613 rfl (lv_at hl 3 rfl) ?_
  refine lv_iconst (v := 4) hx hb dL_law_614 (by decide) ?_
  refine lv_iadd hx hb dL_law_615 ?_
  refine va_sld hx hb hX hbl hbA hS (hin 4 (by decide)) dL_law_616 ?_
  refine lw_call1 (va_runV (As := [.int (xs (nI j + 1).toNatClampNeg), .int (xs (nI j + 2).toNatClampNeg), .int (xs (nI j + 3).toNatClampNeg), .int (xs (nI j + 4).toNatClampNeg)]) (rest := []) ⟨hx, hb, hml, hown, hts⟩ (ctX7_hand l 1000 x 0 (xs (nI j + 1).toNatClampNeg) (xs (nI j + 2).toNatClampNeg) (xs (nI j + 3).toNatClampNeg) (xs (nI j + 4).toNatClampNeg) X adx H.size _ _ e1) (cwV 4 hts gL_law_X7_hand rfl rfl rfl (by decide +kernel) ⟨Nat.le_of_ble_eq_true rfl, Nat.le_of_ble_eq_true rfl⟩) (hs_preV (hs_recv hK hBx okx (by decide) rfl) hV hBx hS hA0 hA hex) rfl rfl hl.1 rfl (lv_room (Nat.le_of_ble_eq_true rfl)) dL_law_617 (show cells + 2 ≤ 600000 ∧ slots + 603 ≤ 7302250 by omega)) hBx hBm hne hS hA (vs := [.int r]) (fun _ => rfl) (fun adx2 H locs had hBx hBm hne hS => ?_)
  have hl : lwL ls b adx2 adm j := by
    have e0 : adx2 0 = adx 0 := had 0 (Or.inl okx.2)
    unfold lwL
    rw [e0]
    exact hl
  have hex : adx2 hs_em = X.2.2.1.2.2.2 := (had hs_em (Or.inr rfl)).trans hex
  refine lv_aload_n hx hb dL_law_620 rfl (lv_at hl 2 rfl) ?_
  refine lv_aload_n hx hb dL_law_621 rfl (lv_at hl 0 rfl) ?_
  refine lv_iload_n hx hb dL_law_622 rfl (lv_at hl 3 rfl) ?_
  refine lv_iconst (v := 1) hx hb dL_law_623 (by decide) ?_
  refine lv_iadd hx hb dL_law_624 ?_
  refine va_sld hx hb hX hbl hbA hS (hin 1 (by decide)) dL_law_625 ?_
  refine lv_aload_n hx hb dL_law_626 rfl (lv_at hl 0 rfl) ?_
  refine lv_iload_n hx hb dL_law_627 rfl (lv_at hl 3 rfl) ?_
  refine lv_iconst (v := 2) hx hb dL_law_628 (by decide) ?_
  refine lv_iadd hx hb dL_law_629 ?_
  refine va_sld hx hb hX hbl hbA hS (hin 2 (by decide)) dL_law_630 ?_
  refine lv_aload_n hx hb dL_law_631 rfl (lv_at hl 0 rfl) ?_
  refine lv_iload_n hx hb dL_law_632 rfl (lv_at hl 3 rfl) ?_
  refine lv_iconst (v := 3) hx hb dL_law_633 (by decide) ?_
  refine lv_iadd hx hb dL_law_634 ?_
  refine va_sld hx hb hX hbl hbA hS (hin 3 (by decide)) dL_law_635 ?_
  refine lv_aload_n hx hb dL_law_636 rfl (lv_at hl 0 rfl) ?_
  refine lv_iload_n hx hb dL_law_637 rfl (lv_at hl 3 rfl) ?_
  refine lv_iconst (v := 4) hx hb dL_law_638 (by decide) ?_
  refine lv_iadd hx hb dL_law_639 ?_
  refine va_sld hx hb hX hbl hbA hS (hin 4 (by decide)) dL_law_640 ?_
  refine lw_call0 (va_runV (As := [.int (xs (nI j + 1).toNatClampNeg), .int (xs (nI j + 2).toNatClampNeg), .int (xs (nI j + 3).toNatClampNeg), .int (xs (nI j + 4).toNatClampNeg)]) (rest := [.int r]) ⟨hx, hb, hml, hown, hts⟩ (ctX8_hand l 1000 mo 0 (xs (nI j + 1).toNatClampNeg) (xs (nI j + 2).toNatClampNeg) (xs (nI j + 3).toNatClampNeg) (xs (nI j + 4).toNatClampNeg) X adm H.size _ _ e2) (cwV 4 hts gL_law_X8_hand rfl rfl rfl (by decide +kernel) ⟨Nat.le_of_ble_eq_true rfl, Nat.le_of_ble_eq_true rfl⟩) (hs_preV (hs_recv hK hBm okm (by decide) rfl) hV hBm hS hA0 hA hem) rfl rfl hl.1 rfl (lv_room (Nat.le_of_ble_eq_true rfl)) dL_law_641 (show cells + 2 + 0 ≤ 600000 ∧ slots + 603 + 0 ≤ 7302250 by omega)) hBm hBx (fun i q hi hq z => hne q i hq hi z.symm) hS hA (vs := [.int r, .int r]) rfl (fun H locs hBm hBx hne2 hS => ?_)
  refine lv_icmp_eq (tgt := 794) hx hb dL_law_644 (by decide) (fun _ => ?_) (fun h => absurd rfl h)
  refine W.widen (k := cells + 27) (n := slots + 3705) (by omega) (by omega) ?_
  exact KK adx2 adm x2 m2 H locs ls hR2 ⟨hBx, hBm, fun i q hi hq z => hne2 q i hq hi z.symm, hex, hem⟩ hS hl
set_option maxRecDepth 100000 in
set_option maxHeartbeats 4000000 in
theorem law_points (C : lwC p s m c X b L xs) (hR : Rel k x mo) (hk : k < 512) (hI : lwI X adx adm x mo H) (hS : va_S (hs_A0 X) s.heap H locs) (hl : lwL ls b adx adm j) (hj : j + 6 ≤ L) (hL : L ≤ 3072) (hcs : cells + 27 ≤ 600000 ∧ slots + 3705 ≤ 7302250) (KK : lwK p l e s m below meth c X b j (k + 1) (cells + 27) (slots + 3705) Q) : W p l e room_1 s m #[Value.ref b] below meth c H locs cells slots Q (F0 m 649 ls []) := by
  obtain ⟨hx, hb, hml, hown, hts, hX, hbl, hV, hn0⟩ := id C
  have hK := hV.1
  have hA0 : ∀ q, hs_A0 X q → hs_A0 X q := fun _ h => h
  have hA : ∀ q, s.heap.size ≤ q → hs_A0 X q := fun q h => by unfold hs_A0; rw [hn0]; exact h
  have hbA : ¬ hs_A0 X b := by unfold hs_A0; rw [hn0]; omega
  have hin : ∀ i, i < 6 → vp_in (nI j + nI i) L := fun i hi => by rw [nI_add]; exact vp_in_nI (by omega) (by omega)
  obtain ⟨okx, okm⟩ := Rel_ok hR
  obtain ⟨r, x2, m2, e1, e2, hR2⟩ : Op k (fX7_points 1000 x 0 (xs (nI j + 1).toNatClampNeg) (xs (nI j + 2).toNatClampNeg)) (fX8_points 1000 mo 0 (xs (nI j + 1).toNatClampNeg) (xs (nI j + 2).toNatClampNeg)) := by
    obtain ⟨T, Rd, nh, st, sv, hn, hb, hp, hr, h⟩ := hR
    exact op_points (by decide) (by omega) h _ _
  obtain ⟨hBx, hBm, hne, hex, hem⟩ := hI
  refine lv_aload_n hx hb dL_law_649 rfl (lv_at hl 1 rfl) ?_
  refine lv_aload_n hx hb dL_law_650 rfl (lv_at hl 0 rfl) ?_
  refine lv_iload_n hx hb dL_law_651 rfl (lv_at hl 3 rfl) ?_
  refine lv_iconst (v := 1) hx hb dL_law_652 (by decide) ?_
  refine lv_iadd hx hb dL_law_653 ?_
  refine va_sld hx hb hX hbl hbA hS (hin 1 (by decide)) dL_law_654 ?_
  refine lv_aload_n hx hb dL_law_655 rfl (lv_at hl 0 rfl) ?_
  refine lv_iload_n hx hb dL_law_656 rfl (lv_at hl 3 rfl) ?_
  refine lv_iconst (v := 2) hx hb dL_law_657 (by decide) ?_
  refine lv_iadd hx hb dL_law_658 ?_
  refine va_sld hx hb hX hbl hbA hS (hin 2 (by decide)) dL_law_659 ?_
  refine lw_call0 (va_runV (As := [.int (xs (nI j + 1).toNatClampNeg), .int (xs (nI j + 2).toNatClampNeg)]) (rest := []) ⟨hx, hb, hml, hown, hts⟩ (ctX7_points l 1000 x 0 (xs (nI j + 1).toNatClampNeg) (xs (nI j + 2).toNatClampNeg) X adx H.size _ _ e1) (cwV 2 hts gL_law_X7_points rfl rfl rfl (by decide +kernel) ⟨Nat.le_of_ble_eq_true rfl, Nat.le_of_ble_eq_true rfl⟩) (hs_preV (hs_recv hK hBx okx (by decide) rfl) hV hBx hS hA0 hA hex) rfl rfl hl.1 rfl (lv_room (Nat.le_of_ble_eq_true rfl)) dL_law_660 (show cells + 0 ≤ 600000 ∧ slots + 0 ≤ 7302250 by omega)) hBx hBm hne hS hA (vs := [.int r]) rfl (fun H locs hBx hBm hne hS => ?_)
  refine lv_aload_n hx hb dL_law_663 rfl (lv_at hl 2 rfl) ?_
  refine lv_aload_n hx hb dL_law_664 rfl (lv_at hl 0 rfl) ?_
  refine lv_iload_n hx hb dL_law_665 rfl (lv_at hl 3 rfl) ?_
  refine lv_iconst (v := 1) hx hb dL_law_666 (by decide) ?_
  refine lv_iadd hx hb dL_law_667 ?_
  refine va_sld hx hb hX hbl hbA hS (hin 1 (by decide)) dL_law_668 ?_
  refine lv_aload_n hx hb dL_law_669 rfl (lv_at hl 0 rfl) ?_
  refine lv_iload_n hx hb dL_law_670 rfl (lv_at hl 3 rfl) ?_
  refine lv_iconst (v := 2) hx hb dL_law_671 (by decide) ?_
  refine lv_iadd hx hb dL_law_672 ?_
  refine va_sld hx hb hX hbl hbA hS (hin 2 (by decide)) dL_law_673 ?_
  refine lw_call0 (va_runV (As := [.int (xs (nI j + 1).toNatClampNeg), .int (xs (nI j + 2).toNatClampNeg)]) (rest := [.int r]) ⟨hx, hb, hml, hown, hts⟩ (ctX8_points l 1000 mo 0 (xs (nI j + 1).toNatClampNeg) (xs (nI j + 2).toNatClampNeg) X adm H.size _ _ e2) (cwV 2 hts gL_law_X8_points rfl rfl rfl (by decide +kernel) ⟨Nat.le_of_ble_eq_true rfl, Nat.le_of_ble_eq_true rfl⟩) (hs_preV (hs_recv hK hBm okm (by decide) rfl) hV hBm hS hA0 hA hem) rfl rfl hl.1 rfl (lv_room (Nat.le_of_ble_eq_true rfl)) dL_law_674 (show cells + 0 ≤ 600000 ∧ slots + 0 ≤ 7302250 by omega)) hBm hBx (fun i q hi hq z => hne q i hq hi z.symm) hS hA (vs := [.int r, .int r]) rfl (fun H locs hBm hBx hne2 hS => ?_)
  refine lv_icmp_eq (tgt := 794) hx hb dL_law_677 (by decide) (fun _ => ?_) (fun h => absurd rfl h)
  refine W.widen (k := cells + 27) (n := slots + 3705) (by omega) (by omega) ?_
  exact KK adx adm x2 m2 H locs ls hR2 ⟨hBx, hBm, fun i q hi hq z => hne2 q i hq hi z.symm, hex, hem⟩ hS hl
set_option maxRecDepth 100000 in
set_option maxHeartbeats 4000000 in
theorem law_board (C : lwC p s m c X b L xs) (hR : Rel k x mo) (hk : k < 512) (hI : lwI X adx adm x mo H) (hS : va_S (hs_A0 X) s.heap H locs) (hl : lwL ls b adx adm j) (hj : j + 6 ≤ L) (hL : L ≤ 3072) (hcs : cells + 27 ≤ 600000 ∧ slots + 3705 ≤ 7302250) (KK : lwK p l e s m below meth c X b j (k + 1) (cells + 27) (slots + 3705) Q) : W p l e room_1 s m #[Value.ref b] below meth c H locs cells slots Q (F0 m 682 ls []) := by
  obtain ⟨hx, hb, hml, hown, hts, hX, hbl, hV, hn0⟩ := id C
  have hK := hV.1
  have hA0 : ∀ q, hs_A0 X q → hs_A0 X q := fun _ h => h
  have hA : ∀ q, s.heap.size ≤ q → hs_A0 X q := fun q h => by unfold hs_A0; rw [hn0]; exact h
  have hbA : ¬ hs_A0 X b := by unfold hs_A0; rw [hn0]; omega
  have hin : ∀ i, i < 6 → vp_in (nI j + nI i) L := fun i hi => by rw [nI_add]; exact vp_in_nI (by omega) (by omega)
  obtain ⟨okx, okm⟩ := Rel_ok hR
  obtain ⟨r, x2, m2, e1, e2, hR2⟩ : Op k (fX7_board 1000 x 0 (xs (nI j + 1).toNatClampNeg) (xs (nI j + 2).toNatClampNeg)) (fX8_board 1000 mo 0 (xs (nI j + 1).toNatClampNeg) (xs (nI j + 2).toNatClampNeg)) := by
    obtain ⟨T, Rd, nh, st, sv, hn, hb, hp, hr, h⟩ := hR
    exact op_board (by decide) (by omega) h _ _
  obtain ⟨hBx, hBm, hne, hex, hem⟩ := hI
  refine lv_aload_n hx hb dL_law_682 rfl (lv_at hl 1 rfl) ?_
  refine lv_aload_n hx hb dL_law_683 rfl (lv_at hl 0 rfl) ?_
  refine lv_iload_n hx hb dL_law_684 rfl (lv_at hl 3 rfl) ?_
  refine lv_iconst (v := 1) hx hb dL_law_685 (by decide) ?_
  refine lv_iadd hx hb dL_law_686 ?_
  refine va_sld hx hb hX hbl hbA hS (hin 1 (by decide)) dL_law_687 ?_
  refine lv_aload_n hx hb dL_law_688 rfl (lv_at hl 0 rfl) ?_
  refine lv_iload_n hx hb dL_law_689 rfl (lv_at hl 3 rfl) ?_
  refine lv_iconst (v := 2) hx hb dL_law_690 (by decide) ?_
  refine lv_iadd hx hb dL_law_691 ?_
  refine va_sld hx hb hX hbl hbA hS (hin 2 (by decide)) dL_law_692 ?_
  refine lw_call0 (va_runV (As := [.int (xs (nI j + 1).toNatClampNeg), .int (xs (nI j + 2).toNatClampNeg)]) (rest := []) ⟨hx, hb, hml, hown, hts⟩ (ctX7_board l 1000 x 0 (xs (nI j + 1).toNatClampNeg) (xs (nI j + 2).toNatClampNeg) X adx H.size _ _ e1) (cwV 2 hts gL_law_X7_board rfl rfl rfl (by decide +kernel) ⟨Nat.le_of_ble_eq_true rfl, Nat.le_of_ble_eq_true rfl⟩) (hs_preV (hs_recv hK hBx okx (by decide) rfl) hV hBx hS hA0 hA hex) rfl rfl hl.1 rfl (lv_room (Nat.le_of_ble_eq_true rfl)) dL_law_693 (show cells + 0 ≤ 600000 ∧ slots + 0 ≤ 7302250 by omega)) hBx hBm hne hS hA (vs := [.int r]) rfl (fun H locs hBx hBm hne hS => ?_)
  refine lv_aload_n hx hb dL_law_696 rfl (lv_at hl 2 rfl) ?_
  refine lv_aload_n hx hb dL_law_697 rfl (lv_at hl 0 rfl) ?_
  refine lv_iload_n hx hb dL_law_698 rfl (lv_at hl 3 rfl) ?_
  refine lv_iconst (v := 1) hx hb dL_law_699 (by decide) ?_
  refine lv_iadd hx hb dL_law_700 ?_
  refine va_sld hx hb hX hbl hbA hS (hin 1 (by decide)) dL_law_701 ?_
  refine lv_aload_n hx hb dL_law_702 rfl (lv_at hl 0 rfl) ?_
  refine lv_iload_n hx hb dL_law_703 rfl (lv_at hl 3 rfl) ?_
  refine lv_iconst (v := 2) hx hb dL_law_704 (by decide) ?_
  refine lv_iadd hx hb dL_law_705 ?_
  refine va_sld hx hb hX hbl hbA hS (hin 2 (by decide)) dL_law_706 ?_
  refine lw_call0 (va_runV (As := [.int (xs (nI j + 1).toNatClampNeg), .int (xs (nI j + 2).toNatClampNeg)]) (rest := [.int r]) ⟨hx, hb, hml, hown, hts⟩ (ctX8_board l 1000 mo 0 (xs (nI j + 1).toNatClampNeg) (xs (nI j + 2).toNatClampNeg) X adm H.size _ _ e2) (cwV 2 hts gL_law_X8_board rfl rfl rfl (by decide +kernel) ⟨Nat.le_of_ble_eq_true rfl, Nat.le_of_ble_eq_true rfl⟩) (hs_preV (hs_recv hK hBm okm (by decide) rfl) hV hBm hS hA0 hA hem) rfl rfl hl.1 rfl (lv_room (Nat.le_of_ble_eq_true rfl)) dL_law_707 (show cells + 0 ≤ 600000 ∧ slots + 0 ≤ 7302250 by omega)) hBm hBx (fun i q hi hq z => hne q i hq hi z.symm) hS hA (vs := [.int r, .int r]) rfl (fun H locs hBm hBx hne2 hS => ?_)
  refine lv_icmp_eq (tgt := 794) hx hb dL_law_710 (by decide) (fun _ => ?_) (fun h => absurd rfl h)
  refine W.widen (k := cells + 27) (n := slots + 3705) (by omega) (by omega) ?_
  exact KK adx adm x2 m2 H locs ls hR2 ⟨hBx, hBm, fun i q hi hq z => hne2 q i hq hi z.symm, hex, hem⟩ hS hl
set_option maxRecDepth 100000 in
set_option maxHeartbeats 4000000 in
theorem law_gain (C : lwC p s m c X b L xs) (hR : Rel k x mo) (hk : k < 512) (hI : lwI X adx adm x mo H) (hS : va_S (hs_A0 X) s.heap H locs) (hl : lwL ls b adx adm j) (hj : j + 6 ≤ L) (hL : L ≤ 3072) (hcs : cells + 27 ≤ 600000 ∧ slots + 3705 ≤ 7302250) (KK : lwK p l e s m below meth c X b j (k + 1) (cells + 27) (slots + 3705) Q) : W p l e room_1 s m #[Value.ref b] below meth c H locs cells slots Q (F0 m 715 ls []) := by
  obtain ⟨hx, hb, hml, hown, hts, hX, hbl, hV, hn0⟩ := id C
  have hK := hV.1
  have hA0 : ∀ q, hs_A0 X q → hs_A0 X q := fun _ h => h
  have hA : ∀ q, s.heap.size ≤ q → hs_A0 X q := fun q h => by unfold hs_A0; rw [hn0]; exact h
  have hbA : ¬ hs_A0 X b := by unfold hs_A0; rw [hn0]; omega
  have hin : ∀ i, i < 6 → vp_in (nI j + nI i) L := fun i hi => by rw [nI_add]; exact vp_in_nI (by omega) (by omega)
  obtain ⟨okx, okm⟩ := Rel_ok hR
  obtain ⟨r, x2, m2, e1, e2, hR2⟩ : Op k (fX7_gain 1000 x 0 (xs (nI j + 1).toNatClampNeg)) (fX8_gain 1000 mo 0 (xs (nI j + 1).toNatClampNeg)) := by
    obtain ⟨T, Rd, nh, st, sv, hn, hb, hp, hr, h⟩ := hR
    exact op_gain (by decide) h _
  obtain ⟨hBx, hBm, hne, hex, hem⟩ := hI
  refine lv_aload_n hx hb dL_law_715 rfl (lv_at hl 1 rfl) ?_
  refine lv_aload_n hx hb dL_law_716 rfl (lv_at hl 0 rfl) ?_
  refine lv_iload_n hx hb dL_law_717 rfl (lv_at hl 3 rfl) ?_
  refine lv_iconst (v := 1) hx hb dL_law_718 (by decide) ?_
  refine lv_iadd hx hb dL_law_719 ?_
  refine va_sld hx hb hX hbl hbA hS (hin 1 (by decide)) dL_law_720 ?_
  refine lw_call0 (va_runV (As := [.int (xs (nI j + 1).toNatClampNeg)]) (rest := []) ⟨hx, hb, hml, hown, hts⟩ (ctX7_gain l 1000 x 0 (xs (nI j + 1).toNatClampNeg) X adx H.size _ _ e1) (cwV 1 hts gL_law_X7_gain rfl rfl rfl (by decide +kernel) ⟨Nat.le_of_ble_eq_true rfl, Nat.le_of_ble_eq_true rfl⟩) (hs_preV (hs_recv hK hBx okx (by decide) rfl) hV hBx hS hA0 hA hex) rfl rfl hl.1 rfl (lv_room (Nat.le_of_ble_eq_true rfl)) dL_law_721 (show cells + 0 ≤ 600000 ∧ slots + 0 ≤ 7302250 by omega)) hBx hBm hne hS hA (vs := [.int r]) rfl (fun H locs hBx hBm hne hS => ?_)
  refine lv_aload_n hx hb dL_law_724 rfl (lv_at hl 2 rfl) ?_
  refine lv_aload_n hx hb dL_law_725 rfl (lv_at hl 0 rfl) ?_
  refine lv_iload_n hx hb dL_law_726 rfl (lv_at hl 3 rfl) ?_
  refine lv_iconst (v := 1) hx hb dL_law_727 (by decide) ?_
  refine lv_iadd hx hb dL_law_728 ?_
  refine va_sld hx hb hX hbl hbA hS (hin 1 (by decide)) dL_law_729 ?_
  refine lw_call0 (va_runV (As := [.int (xs (nI j + 1).toNatClampNeg)]) (rest := [.int r]) ⟨hx, hb, hml, hown, hts⟩ (ctX8_gain l 1000 mo 0 (xs (nI j + 1).toNatClampNeg) X adm H.size _ _ e2) (cwV 1 hts gL_law_X8_gain rfl rfl rfl (by decide +kernel) ⟨Nat.le_of_ble_eq_true rfl, Nat.le_of_ble_eq_true rfl⟩) (hs_preV (hs_recv hK hBm okm (by decide) rfl) hV hBm hS hA0 hA hem) rfl rfl hl.1 rfl (lv_room (Nat.le_of_ble_eq_true rfl)) dL_law_730 (show cells + 0 ≤ 600000 ∧ slots + 0 ≤ 7302250 by omega)) hBm hBx (fun i q hi hq z => hne q i hq hi z.symm) hS hA (vs := [.int r, .int r]) rfl (fun H locs hBm hBx hne2 hS => ?_)
  refine lv_icmp_eq (tgt := 794) hx hb dL_law_733 (by decide) (fun _ => ?_) (fun h => absurd rfl h)
  refine W.widen (k := cells + 27) (n := slots + 3705) (by omega) (by omega) ?_
  exact KK adx adm x2 m2 H locs ls hR2 ⟨hBx, hBm, fun i q hi hq z => hne2 q i hq hi z.symm, hex, hem⟩ hS hl
set_option maxRecDepth 100000 in
set_option maxHeartbeats 4000000 in
theorem law_alike (C : lwC p s m c X b L xs) (hR : Rel k x mo) (hk : k < 512) (hI : lwI X adx adm x mo H) (hS : va_S (hs_A0 X) s.heap H locs) (hl : lwL ls b adx adm j) (hj : j + 6 ≤ L) (hL : L ≤ 3072) (hcs : cells + 27 ≤ 600000 ∧ slots + 3705 ≤ 7302250) (KK : lwK p l e s m below meth c X b j (k + 1) (cells + 27) (slots + 3705) Q) : W p l e room_1 s m #[Value.ref b] below meth c H locs cells slots Q (F0 m 738 ls []) := by
  obtain ⟨hx, hb, hml, hown, hts, hX, hbl, hV, hn0⟩ := id C
  have hK := hV.1
  have hA0 : ∀ q, hs_A0 X q → hs_A0 X q := fun _ h => h
  have hA : ∀ q, s.heap.size ≤ q → hs_A0 X q := fun q h => by unfold hs_A0; rw [hn0]; exact h
  have hbA : ¬ hs_A0 X b := by unfold hs_A0; rw [hn0]; omega
  have hin : ∀ i, i < 6 → vp_in (nI j + nI i) L := fun i hi => by rw [nI_add]; exact vp_in_nI (by omega) (by omega)
  obtain ⟨okx, okm⟩ := Rel_ok hR
  obtain ⟨r, x2, m2, e1, e2, hR2⟩ : Op k (fX7_alike 1000 x 0 (xs (nI j + 1).toNatClampNeg) (xs (nI j + 2).toNatClampNeg)) (fX8_alike 1000 mo 0 (xs (nI j + 1).toNatClampNeg) (xs (nI j + 2).toNatClampNeg)) := by
    obtain ⟨T, Rd, nh, st, sv, hn, hb, hp, hr, h⟩ := hR
    exact Op_same h (op_alike (by decide) h _ _)
  obtain ⟨hBx, hBm, hne, hex, hem⟩ := hI
  refine lv_aload_n hx hb dL_law_738 rfl (lv_at hl 1 rfl) ?_
  refine lv_aload_n hx hb dL_law_739 rfl (lv_at hl 0 rfl) ?_
  refine lv_iload_n hx hb dL_law_740 rfl (lv_at hl 3 rfl) ?_
  refine lv_iconst (v := 1) hx hb dL_law_741 (by decide) ?_
  refine lv_iadd hx hb dL_law_742 ?_
  refine va_sld hx hb hX hbl hbA hS (hin 1 (by decide)) dL_law_743 ?_
  refine lv_aload_n hx hb dL_law_744 rfl (lv_at hl 0 rfl) ?_
  refine lv_iload_n hx hb dL_law_745 rfl (lv_at hl 3 rfl) ?_
  refine lv_iconst (v := 2) hx hb dL_law_746 (by decide) ?_
  refine lv_iadd hx hb dL_law_747 ?_
  refine va_sld hx hb hX hbl hbA hS (hin 2 (by decide)) dL_law_748 ?_
  refine lw_call0 (va_runV (As := [.int (xs (nI j + 1).toNatClampNeg), .int (xs (nI j + 2).toNatClampNeg)]) (rest := []) ⟨hx, hb, hml, hown, hts⟩ (ctX7_alike l 1000 x 0 (xs (nI j + 1).toNatClampNeg) (xs (nI j + 2).toNatClampNeg) X adx H.size _ _ e1) (cwV 2 hts gL_law_X7_alike rfl rfl rfl (by decide +kernel) ⟨Nat.le_of_ble_eq_true rfl, Nat.le_of_ble_eq_true rfl⟩) (hs_preV (hs_recv hK hBx okx (by decide) rfl) hV hBx hS hA0 hA hex) rfl rfl hl.1 rfl (lv_room (Nat.le_of_ble_eq_true rfl)) dL_law_749 (show cells + 0 ≤ 600000 ∧ slots + 0 ≤ 7302250 by omega)) hBx hBm hne hS hA (vs := [.int r]) rfl (fun H locs hBx hBm hne hS => ?_)
  refine lv_aload_n hx hb dL_law_752 rfl (lv_at hl 2 rfl) ?_
  refine lv_aload_n hx hb dL_law_753 rfl (lv_at hl 0 rfl) ?_
  refine lv_iload_n hx hb dL_law_754 rfl (lv_at hl 3 rfl) ?_
  refine lv_iconst (v := 1) hx hb dL_law_755 (by decide) ?_
  refine lv_iadd hx hb dL_law_756 ?_
  refine va_sld hx hb hX hbl hbA hS (hin 1 (by decide)) dL_law_757 ?_
  refine lv_aload_n hx hb dL_law_758 rfl (lv_at hl 0 rfl) ?_
  refine lv_iload_n hx hb dL_law_759 rfl (lv_at hl 3 rfl) ?_
  refine lv_iconst (v := 2) hx hb dL_law_760 (by decide) ?_
  refine lv_iadd hx hb dL_law_761 ?_
  refine va_sld hx hb hX hbl hbA hS (hin 2 (by decide)) dL_law_762 ?_
  refine lw_call0 (va_runV (As := [.int (xs (nI j + 1).toNatClampNeg), .int (xs (nI j + 2).toNatClampNeg)]) (rest := [.int r]) ⟨hx, hb, hml, hown, hts⟩ (ctX8_alike l 1000 mo 0 (xs (nI j + 1).toNatClampNeg) (xs (nI j + 2).toNatClampNeg) X adm H.size _ _ e2) (cwV 2 hts gL_law_X8_alike rfl rfl rfl (by decide +kernel) ⟨Nat.le_of_ble_eq_true rfl, Nat.le_of_ble_eq_true rfl⟩) (hs_preV (hs_recv hK hBm okm (by decide) rfl) hV hBm hS hA0 hA hem) rfl rfl hl.1 rfl (lv_room (Nat.le_of_ble_eq_true rfl)) dL_law_763 (show cells + 0 ≤ 600000 ∧ slots + 0 ≤ 7302250 by omega)) hBm hBx (fun i q hi hq z => hne q i hq hi z.symm) hS hA (vs := [.int r, .int r]) rfl (fun H locs hBm hBx hne2 hS => ?_)
  refine lv_icmp_eq (tgt := 794) hx hb dL_law_766 (by decide) (fun _ => ?_) (fun h => absurd rfl h)
  refine W.widen (k := cells + 27) (n := slots + 3705) (by omega) (by omega) ?_
  exact KK adx adm x2 m2 H locs ls hR2 ⟨hBx, hBm, fun i q hi hq z => hne2 q i hq hi z.symm, hex, hem⟩ hS hl
set_option maxRecDepth 100000 in
set_option maxHeartbeats 4000000 in
theorem law_count (C : lwC p s m c X b L xs) (hR : Rel k x mo) (hk : k < 512) (hI : lwI X adx adm x mo H) (hS : va_S (hs_A0 X) s.heap H locs) (hl : lwL ls b adx adm j) (hj : j + 6 ≤ L) (hL : L ≤ 3072) (hcs : cells + 27 ≤ 600000 ∧ slots + 3705 ≤ 7302250) (KK : lwK p l e s m below meth c X b j (k + 1) (cells + 27) (slots + 3705) Q) : W p l e room_1 s m #[Value.ref b] below meth c H locs cells slots Q (F0 m 771 ls []) := by
  obtain ⟨hx, hb, hml, hown, hts, hX, hbl, hV, hn0⟩ := id C
  have hK := hV.1
  have hA0 : ∀ q, hs_A0 X q → hs_A0 X q := fun _ h => h
  have hA : ∀ q, s.heap.size ≤ q → hs_A0 X q := fun q h => by unfold hs_A0; rw [hn0]; exact h
  have hbA : ¬ hs_A0 X b := by unfold hs_A0; rw [hn0]; omega
  have hin : ∀ i, i < 6 → vp_in (nI j + nI i) L := fun i hi => by rw [nI_add]; exact vp_in_nI (by omega) (by omega)
  obtain ⟨okx, okm⟩ := Rel_ok hR
  obtain ⟨r, x2, m2, e1, e2, hR2⟩ : Op k (fX7_count 1000 x 0 (xs (nI j + 1).toNatClampNeg)) (fX8_count 1000 mo 0 (xs (nI j + 1).toNatClampNeg)) := by
    obtain ⟨T, Rd, nh, st, sv, hn, hb, hp, hr, h⟩ := hR
    exact Op_same h (op_count h _)
  obtain ⟨hBx, hBm, hne, hex, hem⟩ := hI
  refine lv_aload_n hx hb dL_law_771 rfl (lv_at hl 1 rfl) ?_
  refine lv_aload_n hx hb dL_law_772 rfl (lv_at hl 0 rfl) ?_
  refine lv_iload_n hx hb dL_law_773 rfl (lv_at hl 3 rfl) ?_
  refine lv_iconst (v := 1) hx hb dL_law_774 (by decide) ?_
  refine lv_iadd hx hb dL_law_775 ?_
  refine va_sld hx hb hX hbl hbA hS (hin 1 (by decide)) dL_law_776 ?_
  refine lw_call0 (va_runV (As := [.int (xs (nI j + 1).toNatClampNeg)]) (rest := []) ⟨hx, hb, hml, hown, hts⟩ (ctX7_count l 1000 x 0 (xs (nI j + 1).toNatClampNeg) X adx H.size _ _ e1) (cwV 1 hts gL_law_X7_count rfl rfl rfl (by decide +kernel) ⟨Nat.le_of_ble_eq_true rfl, Nat.le_of_ble_eq_true rfl⟩) (hs_preV (hs_recv hK hBx okx (by decide) rfl) hV hBx hS hA0 hA hex) rfl rfl hl.1 rfl (lv_room (Nat.le_of_ble_eq_true rfl)) dL_law_777 (show cells + 0 ≤ 600000 ∧ slots + 0 ≤ 7302250 by omega)) hBx hBm hne hS hA (vs := [.int r]) rfl (fun H locs hBx hBm hne hS => ?_)
  refine lv_aload_n hx hb dL_law_780 rfl (lv_at hl 2 rfl) ?_
  refine lv_aload_n hx hb dL_law_781 rfl (lv_at hl 0 rfl) ?_
  refine lv_iload_n hx hb dL_law_782 rfl (lv_at hl 3 rfl) ?_
  refine lv_iconst (v := 1) hx hb dL_law_783 (by decide) ?_
  refine lv_iadd hx hb dL_law_784 ?_
  refine va_sld hx hb hX hbl hbA hS (hin 1 (by decide)) dL_law_785 ?_
  refine lw_call0 (va_runV (As := [.int (xs (nI j + 1).toNatClampNeg)]) (rest := [.int r]) ⟨hx, hb, hml, hown, hts⟩ (ctX8_count l 1000 mo 0 (xs (nI j + 1).toNatClampNeg) X adm H.size _ _ e2) (cwV 1 hts gL_law_X8_count rfl rfl rfl (by decide +kernel) ⟨Nat.le_of_ble_eq_true rfl, Nat.le_of_ble_eq_true rfl⟩) (hs_preV (hs_recv hK hBm okm (by decide) rfl) hV hBm hS hA0 hA hem) rfl rfl hl.1 rfl (lv_room (Nat.le_of_ble_eq_true rfl)) dL_law_786 (show cells + 0 ≤ 600000 ∧ slots + 0 ≤ 7302250 by omega)) hBm hBx (fun i q hi hq z => hne q i hq hi z.symm) hS hA (vs := [.int r, .int r]) rfl (fun H locs hBm hBx hne2 hS => ?_)
  refine lv_icmp_eq (tgt := 794) hx hb dL_law_789 (by decide) (fun _ => ?_) (fun h => absurd rfl h)
  refine W.widen (k := cells + 27) (n := slots + 3705) (by omega) (by omega) ?_
  exact KK adx adm x2 m2 H locs ls hR2 ⟨hBx, hBm, fun i q hi hq z => hne2 q i hq hi z.symm, hex, hem⟩ hS hl
end LawCalls
