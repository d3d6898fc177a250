/-! The abstract heap: cells by their names (0, 1, 2 .. in the order in which they are made), ad: where a name lies. (count, kind of a name, length of an array), int fields, reference fields, rows of numbers, rows of references -/
abbrev hs_T : Type := (Nat × (Nat → Nat) × (Nat → Nat)) × (Nat → Nat → Int32) × (Nat → Nat → Option Nat) × (Nat → Nat → Int32) × (Nat → Nat → Option Nat)
def hs_N (σ : hs_T) : Nat := σ.1.1
def hs_K (σ : hs_T) : Nat → Nat := σ.1.2.1
def hs_L (σ : hs_T) : Nat → Nat := σ.1.2.2
def hs_F (σ : hs_T) : Nat → Nat → Int32 := σ.2.1
def hs_G (σ : hs_T) : Nat → Nat → Option Nat := σ.2.2.1
def hs_R (σ : hs_T) : Nat → Nat → Int32 := σ.2.2.2.1
def hs_O (σ : hs_T) : Nat → Nat → Option Nat := σ.2.2.2.2
def hs_up {α : Type} (f : Nat → Nat → α) (k n : Nat) (v : α) : Nat → Nat → α := fun k' n' => if k' = k ∧ n' = n then v else f k' n'
def hs_wF (σ : hs_T) (k n : Nat) (v : Int32) : hs_T := (σ.1, hs_up σ.2.1 k n v, σ.2.2)
def hs_wG (σ : hs_T) (k n : Nat) (v : Option Nat) : hs_T := (σ.1, σ.2.1, hs_up σ.2.2.1 k n v, σ.2.2.2)
def hs_wR (σ : hs_T) (n i : Nat) (v : Int32) : hs_T := (σ.1, σ.2.1, σ.2.2.1, hs_up σ.2.2.2.1 n i v, σ.2.2.2.2)
def hs_wO (σ : hs_T) (n i : Nat) (v : Option Nat) : hs_T := (σ.1, σ.2.1, σ.2.2.1, σ.2.2.2.1, hs_up σ.2.2.2.2 n i v)
/-- a whole row anew -/
def hs_wRow (σ : hs_T) (n : Nat) (f : Nat → Int32) : hs_T := (σ.1, σ.2.1, σ.2.2.1, (fun n' => if n' = n then f else σ.2.2.2.1 n'), σ.2.2.2.2)
/-- kinds: 1 ArrayList, 2 HandIn, 3 Machine, 4 Mail, 5 Program, 6 Reader, 7 Service, 8 Tape, 9 ServiceGame, 10 ServiceGameModel, 11 rows of ints, 12 of booleans, 13 of references. Which slots are references: -/
def hs_sh : Nat → List Bool := fun k => match k with
  | 1 => [false, true, false]
  | 2 => [false, true, false]
  | 3 => [true, true, false, false, false, false]
  | 4 => [true, true, true, false]
  | 5 => [false, true, true]
  | 6 => [true, true, false, false]
  | 7 => [false, false, true, true, true, true, true, true, true, true, true, false, false, false]
  | 8 => [true, false]
  | 9 => [true, true, true, true, true, true, true, true, false, false]
  | 10 => [false, false, true, true, true, true, true, false, false, true, true, false, true, true, true, true, true, true, true, false, false, false, true, true, true, true, true, true, false, false, false, true, true, true, true, true, true, true, false, true, true, true, true]
  | _ => []
def hs_v (ad : Nat → Nat) (σ : hs_T) (n : Nat) (b : Bool) (k : Nat) : Value := if b then va_rf ((hs_G σ k n).map ad) else .int (hs_F σ k n)
def hs_fs (ad : Nat → Nat) (σ : hs_T) (kd n : Nat) : List Value := (hs_sh kd).mapIdx (fun k b => hs_v ad σ n b k)
abbrev hs_E : Type := ClassId × ClassId × ClassId
def hs_e (E : hs_E) (ad : Nat → Nat) (σ : hs_T) (n : Nat) : va_E :=
  if hs_K σ n = 11 then .inl (E.1, hs_L σ n, .inl (hs_R σ n)) else if hs_K σ n = 12 then .inl (E.2.1, hs_L σ n, .inl (hs_R σ n)) else if hs_K σ n = 13 then .inl (E.2.2, hs_L σ n, .inr (.inr (.inr (.inr (fun i => (hs_O σ n i).map ad))))) else .inr (hs_K σ n - 1, hs_fs ad σ (hs_K σ n) n)
def hs_ws (E : hs_E) (ad : Nat → Nat) (σ : hs_T) : va_W := (List.range (hs_N σ)).map (fun n => (ad n, hs_e E ad σ n))
def hs_ok (σ : hs_T) (kd n : Nat) : Prop := hs_K σ n = kd ∧ n < hs_N σ
/-- the name of ArrayList's own empty row -/
def hs_em : Nat := 1000000000
/-- what is referred to is there -/
def hs_wf (σ : hs_T) : Prop := (∀ k n m, hs_G σ k n = some m → m < hs_N σ ∨ m = hs_em) ∧ ∀ n i m, hs_O σ n i = some m → m < hs_N σ ∨ m = hs_em
def hs_H (D : va_G) (E : hs_E) (ad : Nat → Nat) (A : Nat → Prop) (σ : hs_T) (H : Heap) : Prop := va_P D vwCl (hs_ws E ad σ) H ∧ va_D A (hs_ws E ad σ) ∧ hs_wf σ
abbrev hs_ty (E : hs_E) : List (ClassId × FieldType) := [(E.1, .int), (E.2.1, .boolean), (E.2.2, .object "java/lang/Object")]
theorem hs_at {E : hs_E} {ad : Nat → Nat} {σ : hs_T} {n : Nat} (h : n < hs_N σ) : (hs_ws E ad σ)[n]? = some (ad n, hs_e E ad σ n) := by
  simp [hs_ws, h]
theorem hs_len {E : hs_E} {ad : Nat → Nat} {σ : hs_T} : (hs_ws E ad σ).length = hs_N σ := by
  simp [hs_ws]
theorem hs_e_o {E : hs_E} {ad : Nat → Nat} {σ : hs_T} {n kd : Nat} (h : hs_K σ n = kd) (hk : kd < 11) : hs_e E ad σ n = .inr (kd - 1, hs_fs ad σ kd n) := by
  unfold hs_e
  rw [h, if_neg (by omega), if_neg (by omega), if_neg (by omega)]
theorem hs_e_i {E : hs_E} {ad : Nat → Nat} {σ : hs_T} {n : Nat} (h : hs_K σ n = 11) : hs_e E ad σ n = .inl (E.1, hs_L σ n, .inl (hs_R σ n)) := by
  unfold hs_e
  rw [if_pos h]
theorem hs_e_z {E : hs_E} {ad : Nat → Nat} {σ : hs_T} {n : Nat} (h : hs_K σ n = 12) : hs_e E ad σ n = .inl (E.2.1, hs_L σ n, .inl (hs_R σ n)) := by
  unfold hs_e
  rw [if_neg (by omega), if_pos h]
theorem hs_e_q {E : hs_E} {ad : Nat → Nat} {σ : hs_T} {n : Nat} (h : hs_K σ n = 13) : hs_e E ad σ n = .inl (E.2.2, hs_L σ n, .inr (.inr (.inr (.inr (fun i => (hs_O σ n i).map ad))))) := by
  unfold hs_e
  rw [if_neg (by omega), if_neg (by omega), if_pos h]
/-- one cell anew -/
theorem hs_set {E : hs_E} {ad : Nat → Nat} {σ σ' : hs_T} {n : Nat} (hN : hs_N σ' = hs_N σ) (ho : ∀ j, j ≠ n → hs_e E ad σ' j = hs_e E ad σ j) : (hs_ws E ad σ).set n (ad n, hs_e E ad σ' n) = hs_ws E ad σ' := by
  apply List.ext_getElem?
  intro j
  by_cases hj : j = n
  · subst hj
    by_cases hl : j < hs_N σ
    · rw [List.getElem?_set_self (by rw [hs_len]; exact hl), hs_at (by rw [hN]; exact hl)]
    · rw [List.getElem?_eq_none (by rw [List.length_set, hs_len]; omega), List.getElem?_eq_none (by rw [hs_len, hN]; omega)]
  · rw [List.getElem?_set_ne (Ne.symm hj)]
    by_cases hl : j < hs_N σ
    · rw [hs_at hl, hs_at (by rw [hN]; exact hl), ho j hj]
    · rw [List.getElem?_eq_none (by rw [hs_len]; omega), List.getElem?_eq_none (by rw [hs_len, hN]; omega)]
theorem hs_up_ne {α : Type} {f : Nat → Nat → α} {k n : Nat} {v : α} {k' n' : Nat} (h : ¬ (k' = k ∧ n' = n)) : hs_up f k n v k' n' = f k' n' := if_neg h
theorem hs_up_eq {α : Type} {f : Nat → Nat → α} {k n : Nat} {v : α} : hs_up f k n v k n = v := if_pos ⟨rfl, rfl⟩
theorem hs_up_row {f : Nat → Nat → Int32} {n i : Nat} {v : Int32} : hs_up f n i v n = upd (f n) i v := by
  funext j
  by_cases h : j = i
  · subst h
    rw [hs_up_eq]
    simp [upd]
  · rw [hs_up_ne (fun z => h z.2)]
    simp [upd, h]
theorem hs_up_rowq {f : Nat → Nat → Option Nat} {n i : Nat} {v : Option Nat} {ad : Nat → Nat} : (fun j => (hs_up f n i v n j).map ad) = va_up (fun j => (f n j).map ad) i (v.map ad) := by
  funext j
  by_cases h : j = i
  · subst h
    rw [hs_up_eq]
    simp [va_up]
  · rw [hs_up_ne (fun z => h z.2)]
    simp [va_up, h]
theorem hs_up_row_ne {α : Type} {f : Nat → Nat → α} {n i : Nat} {v : α} {m : Nat} (h : m ≠ n) : hs_up f n i v m = f m := by
  funext j
  exact hs_up_ne (fun z => h z.1)
theorem hs_e_congr {E : hs_E} {ad : Nat → Nat} {σ σ' : hs_T} {n : Nat} (hK : hs_K σ' n = hs_K σ n) (hL : hs_L σ' n = hs_L σ n) (hF : ∀ k, hs_F σ' k n = hs_F σ k n) (hG : ∀ k, hs_G σ' k n = hs_G σ k n) (hR : hs_R σ' n = hs_R σ n) (hO : hs_O σ' n = hs_O σ n) : hs_e E ad σ' n = hs_e E ad σ n := by
  unfold hs_e hs_fs hs_v
  simp only [hK, hL, hF, hG, hR, hO]
theorem hs_ws_F {E : hs_E} {ad : Nat → Nat} {σ : hs_T} {kd n k : Nat} {v : Int32} (h : hs_K σ n = kd) (hk : kd < 11) (hs : (hs_sh kd)[k]? = some false) : (hs_ws E ad σ).set n (ad n, .inr (kd - 1, (hs_fs ad σ kd n).set k (.int v))) = hs_ws E ad (hs_wF σ k n v) := by
  rw [← hs_set (σ := σ) (σ' := hs_wF σ k n v) rfl (fun j hj => hs_e_congr rfl rfl (fun k' => hs_up_ne (fun z => hj z.2)) (fun _ => rfl) rfl rfl)]
  rw [hs_e_o (σ := hs_wF σ k n v) (kd := kd) h hk]
  congr 4
  apply List.ext_getElem?
  intro j
  unfold hs_fs
  by_cases hj : j = k
  · subst hj
    have hl := (List.getElem?_eq_some_iff.mp hs).1
    rw [List.getElem?_set_self (by simpa using hl)]
    simp [List.getElem?_mapIdx, hs, hs_v, hs_wF, hs_F, hs_up]
  · rw [List.getElem?_set_ne (Ne.symm hj)]
    simp [List.getElem?_mapIdx, hs_v, hs_wF, hs_F, hs_G, hs_up, hj]
theorem hs_ws_G {E : hs_E} {ad : Nat → Nat} {σ : hs_T} {kd n k : Nat} {v : Option Nat} (h : hs_K σ n = kd) (hk : kd < 11) (hs : (hs_sh kd)[k]? = some true) : (hs_ws E ad σ).set n (ad n, .inr (kd - 1, (hs_fs ad σ kd n).set k (va_rf (v.map ad)))) = hs_ws E ad (hs_wG σ k n v) := by
  rw [← hs_set (σ := σ) (σ' := hs_wG σ k n v) rfl (fun j hj => hs_e_congr rfl rfl (fun _ => rfl) (fun k' => hs_up_ne (fun z => hj z.2)) rfl rfl)]
  rw [hs_e_o (σ := hs_wG σ k n v) (kd := kd) h hk]
  congr 4
  apply List.ext_getElem?
  intro j
  unfold hs_fs
  by_cases hj : j = k
  · subst hj
    have hl := (List.getElem?_eq_some_iff.mp hs).1
    rw [List.getElem?_set_self (by simpa using hl)]
    simp [List.getElem?_mapIdx, hs, hs_v, hs_wG, hs_G, hs_up]
  · rw [List.getElem?_set_ne (Ne.symm hj)]
    simp [List.getElem?_mapIdx, hs_v, hs_wG, hs_F, hs_G, hs_up, hj]
theorem hs_ws_R {E : hs_E} {ad : Nat → Nat} {σ : hs_T} {n i : Nat} {v : Int32} (h : hs_K σ n = 11) : (hs_ws E ad σ).set n (ad n, .inl (E.1, hs_L σ n, .inl (upd (hs_R σ n) i v))) = hs_ws E ad (hs_wR σ n i v) := by
  rw [← hs_set (σ := σ) (σ' := hs_wR σ n i v) rfl (fun j hj => hs_e_congr rfl rfl (fun _ => rfl) (fun _ => rfl) (hs_up_row_ne hj) rfl)]
  rw [hs_e_i (σ := hs_wR σ n i v) h, ← hs_up_row]
  rfl
theorem hs_ws_Z {E : hs_E} {ad : Nat → Nat} {σ : hs_T} {n i : Nat} {v : Int32} (h : hs_K σ n = 12) : (hs_ws E ad σ).set n (ad n, .inl (E.2.1, hs_L σ n, .inl (upd (hs_R σ n) i v))) = hs_ws E ad (hs_wR σ n i v) := by
  rw [← hs_set (σ := σ) (σ' := hs_wR σ n i v) rfl (fun j hj => hs_e_congr rfl rfl (fun _ => rfl) (fun _ => rfl) (hs_up_row_ne hj) rfl)]
  rw [hs_e_z (σ := hs_wR σ n i v) h, ← hs_up_row]
  rfl
theorem hs_ws_Row {E : hs_E} {ad : Nat → Nat} {σ : hs_T} {n : Nat} {f : Nat → Int32} (h : hs_K σ n = 11) : (hs_ws E ad σ).set n (ad n, .inl (E.1, hs_L σ n, .inl f)) = hs_ws E ad (hs_wRow σ n f) := by
  rw [← hs_set (σ := σ) (σ' := hs_wRow σ n f) rfl (fun j hj => hs_e_congr rfl rfl (fun _ => rfl) (fun _ => rfl) (if_neg hj) rfl)]
  rw [hs_e_i (σ := hs_wRow σ n f) h]
  rw [show hs_R (hs_wRow σ n f) n = f from if_pos rfl]
  rfl
theorem hs_ws_O {E : hs_E} {ad : Nat → Nat} {σ : hs_T} {n i : Nat} {v : Option Nat} (h : hs_K σ n = 13) : (hs_ws E ad σ).set n (ad n, .inl (E.2.2, hs_L σ n, .inr (.inr (.inr (.inr (va_up (fun j => (hs_O σ n j).map ad) i (v.map ad))))))) = hs_ws E ad (hs_wO σ n i v) := by
  rw [← hs_set (σ := σ) (σ' := hs_wO σ n i v) rfl (fun j hj => hs_e_congr rfl rfl (fun _ => rfl) (fun _ => rfl) rfl (hs_up_row_ne hj))]
  rw [hs_e_q (σ := hs_wO σ n i v) h, ← hs_up_rowq]
  rfl
theorem hs_fs_get {ad : Nat → Nat} {σ : hs_T} {kd n k : Nat} {b : Bool} (hs : (hs_sh kd)[k]? = some b) : (hs_fs ad σ kd n)[k]? = some (hs_v ad σ n b k) := by
  simp [hs_fs, List.getElem?_mapIdx, hs]
theorem hs_wf_G {σ : hs_T} {k n : Nat} {r : Option Nat} (h : hs_wf σ) (hr : ∀ m, r = some m → m < hs_N σ ∨ m = hs_em) : hs_wf (hs_wG σ k n r) := by
  refine ⟨fun k' n' m hm => ?_, h.2⟩
  by_cases hc : k' = k ∧ n' = n
  · have e : hs_G (hs_wG σ k n r) k' n' = r := if_pos hc
    rw [e] at hm
    exact hr m hm
  · have e : hs_G (hs_wG σ k n r) k' n' = hs_G σ k' n' := if_neg hc
    rw [e] at hm
    exact h.1 k' n' m hm
theorem hs_wf_O {σ : hs_T} {n i : Nat} {r : Option Nat} (h : hs_wf σ) (hr : ∀ m, r = some m → m < hs_N σ ∨ m = hs_em) : hs_wf (hs_wO σ n i r) := by
  refine ⟨h.1, fun n' i' m hm => ?_⟩
  by_cases hc : n' = n ∧ i' = i
  · have e : hs_O (hs_wO σ n i r) n' i' = r := if_pos hc
    rw [e] at hm
    exact hr m hm
  · have e : hs_O (hs_wO σ n i r) n' i' = hs_O σ n' i' := if_neg hc
    rw [e] at hm
    exact h.2 n' i' m hm
