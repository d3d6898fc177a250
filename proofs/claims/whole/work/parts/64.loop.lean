/-! THE CLAIM OUT OF ONE WALK OF THE LAW'S BODY. Your part is whole_start (and what it stands on); all else here is the same for every law, but numbers. -/
def R_law : String := "ServiceGameLaw"
def lw_P (b : Addr) (xs : List Int32) (args : Array Value) (s : State) : Prop := args = #[.ref b] ∧ s.IntsAt b xs ∧ xs.length ≤ 3072 ∧ (Jvm.Cond.and given_1 narrow_1).before args s = true
def lw_Q (_ : Array Value) (s : State) (o : Outcome) (t : State) : Prop := o = .returned (some (.int 1)) ∧ Framed s o t [] 600000 7302250
def lw_Z (below : List Frame) (a : Array Value) (s : State) : State → Prop := fun t => ∃ o, t.status = .running ∧ Ended t below o ∧ lw_Q a s o t
/-- the law's own end, with 1 on the stack, nothing written that was there before, its room as the claim has it -/
theorem lw_ret {p : Program} {l : Launch} {e : Env} {s : State} {m : MethodId} {below : List Frame} {meth : Method} {c : Code} {b : Nat} (hx : p.tables.exec = Jvm.exec) (hb : c.code = code) (hr : meth.sig.returnType = ret) (hlocks : meth.locks = false) {pc : Nat} {H : Heap} {ls : Array Slot} (hdg : decode code pc = .ok (.ireturn, 1)) : W p l e room_1 s m #[Value.ref b] below meth c H [] 600000 7302250 (lw_Z below #[Value.ref b] s) (F0 m pc ls [.int 1]) := by
  intro T hT X
  obtain ⟨fs, hret, hrun, hended, hW, hframe⟩ := X.leave (v := some (.int 1)) (hlocks := hlocks) (fun h => by rw [hr] at h; cases h)
  have hmeth' : T.vm.method? m = some meth := X.method'
  refine ⟨T.setFrames fs, ?_, .returned (some (.int 1)), hrun, hended, rfl, ⟨_, rfl⟩, hW, hframe⟩
  jvm_step X.here [X.here.top, hx, hb, hdg, hmeth', hr, ret, narrow_b1]
  (try refine ⟨rfl, ?_⟩); (try refine ⟨rfl, ?_⟩)
  first | (intro acts; rw [hret _ acts rfl rfl rfl]) | rw [hret _ _ rfl rfl rfl]
  exact Steps.refl _
/-- what holds at the law's entry: the machine, the code, the tables' words (any of lw_tbl by 'hts w (by decide +kernel)'), the script of L ints xs at the cell b, what the Statement gives of the start (any of its parts by flat_of_before) -/
def lw_At (p : Program) (s : State) (m : MethodId) (meth : Method) (c : Code) (b L : Nat) (xs : Nat → Int32) : Prop :=
  p.tables.exec = Jvm.exec ∧ c.code = code ∧ meth.sig.returnType = ret ∧ c.maxLocals = 4 ∧ s.vm.findClass R_law = some m.cls ∧ (∀ w ∈ lw_tbl, w.before #[Value.ref b] s = true) ∧ va_X b L xs s s.heap ∧ b < s.heap.size ∧ meth.locks = false ∧ (Jvm.Cond.and given_1 narrow_1).before #[Value.ref b] s = true
section LawLoop
variable {p : Program} {l : Launch} {e : Env} {s : State} {m : MethodId} {below : List Frame} {meth : Method} {c : Code} {X : hs_X} {b L : Nat} {xs : Nat → Int32}
theorem Rel_le {k k2 : Nat} {x mo : hs_T} (hk : k ≤ k2) (h : Rel k x mo) : Rel k2 x mo := by
  obtain ⟨T, Rd, nh, st, sv, hn, hb, hp, hr, h⟩ := h
  exact ⟨T, Rd, nh, st, sv, hn, hb, hp, hr, Rl_le hk h⟩
set_option maxRecDepth 100000 in
set_option maxHeartbeats 4000000 in
theorem law_loop (C : lwC p s m c X b L xs) (hrt : meth.sig.returnType = ret) (hlk : meth.locks = false) (hL : L ≤ 3072) : ∀ (n k : Nat) (adx adm : Nat → Nat) (x mo : hs_T) (H : Heap) (locs : List Loc) (ls : Array Slot), L < 6 * (k + n) → k ≤ 512 → Rel k x mo → lwI X adx adm x mo H → va_S (hs_A0 X) s.heap H locs → lwL ls b adx adm (6 * k) → W p l e room_1 s m #[Value.ref b] below meth c H locs (49 + 27 * k) (14931 + 3705 * k) (lw_Z below #[Value.ref b] s) (F0 m 18 ls []) := by
  obtain ⟨hx, hb, hml, hown, hts, hX, hbl, hV, hn0⟩ := id C
  have hbA : ¬ hs_A0 X b := by unfold hs_A0; rw [hn0]; omega
  intro n
  induction n with
  | zero =>
    intro k adx adm x mo H locs ls hn hk hR hI hS hl
    refine lv_iload_n hx hb dL_law_18 rfl (lv_at hl 3 rfl) ?_
    refine lv_aload_n hx hb dL_law_19 rfl (lv_at hl 0 rfl) ?_
    refine va_slen hx hb hX hbl hbA hS dL_law_20 ?_
    refine lv_bipush (v := 6) hx hb dL_law_21 (by decide) ?_
    refine lv_isub hx hb dL_law_23 ?_
    refine lv_icmp_gt (tgt := 800) hx hb dL_law_24 (by decide) (fun h => ?_) (fun h => ?_)
    · refine lv_iconst (v := 1) hx hb dL_law_800 (by decide) ?_
      refine va_forget (fun q hq => by have := hS.2.2 q hq; unfold hs_A0 at this; rw [hn0] at this; exact this) ?_
      refine W.widen (k := 600000) (n := 7302250) (by omega) (by omega) ?_
      exact lw_ret hx hb hrt hlk dL_law_801
    · refine absurd ?_ h
      show nI L - nI 6 < nI (6 * k)
      rw [fa_lt, pk_sub_toInt (by omega) (by omega), nI_toInt (by omega)]
      omega
  | succ n ih =>
    intro k adx adm x mo H locs ls hn hk hR hI hS hl
    refine lv_iload_n hx hb dL_law_18 rfl (lv_at hl 3 rfl) ?_
    refine lv_aload_n hx hb dL_law_19 rfl (lv_at hl 0 rfl) ?_
    refine va_slen hx hb hX hbl hbA hS dL_law_20 ?_
    refine lv_bipush (v := 6) hx hb dL_law_21 (by decide) ?_
    refine lv_isub hx hb dL_law_23 ?_
    refine lv_icmp_gt (tgt := 800) hx hb dL_law_24 (by decide) (fun h => ?_) (fun h => ?_)
    · refine lv_iconst (v := 1) hx hb dL_law_800 (by decide) ?_
      refine va_forget (fun q hq => by have := hS.2.2 q hq; unfold hs_A0 at this; rw [hn0] at this; exact this) ?_
      refine W.widen (k := 600000) (n := 7302250) (by omega) (by omega) ?_
      exact lw_ret hx hb hrt hlk dL_law_801
    · have hj : 6 * k + 6 ≤ L := by
        have h2 : ¬ nI L - nI 6 < nI (6 * k) := h
        rw [fa_lt, pk_sub_toInt (by omega) (by omega), nI_toInt (by omega)] at h2
        omega
      have hk2 : k < 512 := by omega
      have hin0 : vp_in (nI (6 * k)) L := vp_in_nI (by omega) (by omega)
      have KK : lwK p l e s m below meth c X b (6 * k) (k + 1) (49 + 27 * k + 27) (14931 + 3705 * k + 3705) (lw_Z below #[Value.ref b] s) := by
        intro adx adm x mo H locs ls hR hI hS hl
        refine lv_iinc (v := nI (6 * (k + 1))) (lv' := [(3, .int (nI (6 * (k + 1)))), (0, .ref b), (1, .ref (adx 0)), (2, .ref (adm 0))]) hx hb dL_law_794 hl (k := 3) rfl (by
          show nI (6 * k) + nI 6 = nI (6 * (k + 1))
          rw [nI_add]
          rfl) (by decide) rfl (fun ls hl => ?_)
        refine lv_goto (tgt := 18) hx hb dL_law_797 (by decide) ?_
        exact ih (k + 1) adx adm x mo H locs ls (by omega) (by omega) hR hI hS (lv_sub hl [1, 2, 3, 0] rfl)
      have hcs : 49 + 27 * k + 27 ≤ 600000 ∧ 14931 + 3705 * k + 3705 ≤ 7302250 := by omega
      refine lv_aload_n hx hb dL_law_27 rfl (lv_at hl 0 rfl) ?_
      refine lv_iload_n hx hb dL_law_28 rfl (lv_at hl 3 rfl) ?_
      refine va_sld hx hb hX hbl hbA hS hin0 dL_law_29 ?_
      refine lv_bipush (v := 31) hx hb dL_law_30 (by decide) ?_
      refine lv_iand hx hb dL_law_32 ?_
      obtain ⟨t, ht, et⟩ := pk_andE (xs (nI (6 * k)).toNatClampNeg) (m := 31) 5 (by decide)
      rw [et]
      by_cases q0 : t = 0
      · subst q0
        refine lv_tableIn (tgt := 120) hx hb dL_law_33 (by decide) (by decide) rfl (by decide) ?_
        exact law_team C hR hk2 hI hS hl hj hL hcs KK
      by_cases q1 : t = 1
      · subst q1
        refine lv_tableIn (tgt := 133) hx hb dL_law_33 (by decide) (by decide) rfl (by decide) ?_
        exact law_feed C hR hk2 hI hS hl hj hL hcs KK
      by_cases q2 : t = 2
      · subst q2
        refine lv_tableIn (tgt := 196) hx hb dL_law_33 (by decide) (by decide) rfl (by decide) ?_
        exact law_patch C hR hk2 hI hS hl hj hL hcs KK
      by_cases q3 : t = 3
      · subst q3
        refine lv_tableIn (tgt := 229) hx hb dL_law_33 (by decide) (by decide) rfl (by decide) ?_
        exact law_unpatch C hR hk2 hI hS hl hj hL hcs KK
      by_cases q4 : t = 4
      · subst q4
        refine lv_tableIn (tgt := 262) hx hb dL_law_33 (by decide) (by decide) rfl (by decide) ?_
        exact law_cell C hR hk2 hI hS hl hj hL hcs KK
      by_cases q5 : t = 5
      · subst q5
        refine lv_tableIn (tgt := 305) hx hb dL_law_33 (by decide) (by decide) rfl (by decide) ?_
        exact law_about C hR hk2 hI hS hl hj hL hcs KK
      by_cases q6 : t = 6
      · subst q6
        refine lv_tableIn (tgt := 348) hx hb dL_law_33 (by decide) (by decide) rfl (by decide) ?_
        exact law_set C hR hk2 hI hS hl hj hL hcs KK
      by_cases q7 : t = 7
      · subst q7
        refine lv_tableIn (tgt := 381) hx hb dL_law_33 (by decide) (by decide) rfl (by decide) ?_
        exact law_letter C hR hk2 hI hS hl hj hL hcs KK
      by_cases q8 : t = 8
      · subst q8
        refine lv_tableIn (tgt := 444) hx hb dL_law_33 (by decide) (by decide) rfl (by decide) ?_
        exact law_round C hR hk2 hI hS hl hj hL hcs KK
      by_cases q9 : t = 9
      · subst q9
        refine lv_tableIn (tgt := 457) hx hb dL_law_33 (by decide) (by decide) rfl (by decide) ?_
        exact law_up C hR hk2 hI hS hl hj hL hcs KK
      by_cases q10 : t = 10
      · subst q10
        refine lv_tableIn (tgt := 500) hx hb dL_law_33 (by decide) (by decide) rfl (by decide) ?_
        exact law_check C hR hk2 hI hS hl hj hL hcs KK
      by_cases q11 : t = 11
      · subst q11
        refine lv_tableIn (tgt := 553) hx hb dL_law_33 (by decide) (by decide) rfl (by decide) ?_
        exact law_flag C hR hk2 hI hS hl hj hL hcs KK
      by_cases q12 : t = 12
      · subst q12
        refine lv_tableIn (tgt := 596) hx hb dL_law_33 (by decide) (by decide) rfl (by decide) ?_
        exact law_hand C hR hk2 hI hS hl hj hL hcs KK
      by_cases q13 : t = 13
      · subst q13
        refine lv_tableIn (tgt := 649) hx hb dL_law_33 (by decide) (by decide) rfl (by decide) ?_
        exact law_points C hR hk2 hI hS hl hj hL hcs KK
      by_cases q14 : t = 14
      · subst q14
        refine lv_tableIn (tgt := 682) hx hb dL_law_33 (by decide) (by decide) rfl (by decide) ?_
        exact law_board C hR hk2 hI hS hl hj hL hcs KK
      by_cases q15 : t = 15
      · subst q15
        refine lv_tableIn (tgt := 715) hx hb dL_law_33 (by decide) (by decide) rfl (by decide) ?_
        exact law_gain C hR hk2 hI hS hl hj hL hcs KK
      by_cases q16 : t = 16
      · subst q16
        refine lv_tableIn (tgt := 738) hx hb dL_law_33 (by decide) (by decide) rfl (by decide) ?_
        exact law_alike C hR hk2 hI hS hl hj hL hcs KK
      by_cases q17 : t = 17
      · subst q17
        refine lv_tableIn (tgt := 771) hx hb dL_law_33 (by decide) (by decide) rfl (by decide) ?_
        exact law_count C hR hk2 hI hS hl hj hL hcs KK
      refine lv_tableOut (tgt := 794) hx hb dL_law_33 (Or.inr (by rw [nI_toInt (by omega)]; omega)) (by decide) ?_
      refine W.widen (k := 49 + 27 * k + 27) (n := 14931 + 3705 * k + 3705) (by omega) (by omega) ?_
      exact KK adx adm x mo H locs ls (Rel_le (by omega) hR) hI hS hl
end LawLoop
