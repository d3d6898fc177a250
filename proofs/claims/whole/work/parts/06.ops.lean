/-! The picture's own steps: each gives nothing where the machine would throw -/
def hs_ck (σ : hs_T) (kd n : Nat) : Option Unit := if hs_K σ n = kd ∧ n < hs_N σ then some () else none
def hs_gI (σ : hs_T) (kd n k : Nat) : Option Int32 := if hs_K σ n = kd ∧ n < hs_N σ then some (hs_F σ k n) else none
def hs_gR (σ : hs_T) (kd n k : Nat) : Option (Option Nat) := if hs_K σ n = kd ∧ n < hs_N σ then some (hs_G σ k n) else none
def hs_gN (σ : hs_T) (kd n k : Nat) : Option Nat := if hs_K σ n = kd ∧ n < hs_N σ then hs_G σ k n else none
def hs_pI (σ : hs_T) (kd n k : Nat) (v : Int32) : Option hs_T := if hs_K σ n = kd ∧ n < hs_N σ then some (hs_wF σ k n v) else none
def hs_lvr (σ : hs_T) (r : Option Nat) : Bool := match r with
  | none => true
  | some q => decide (q < hs_N σ ∨ q = hs_em)
def hs_pR (σ : hs_T) (kd n k : Nat) (r : Option Nat) : Option hs_T := if (hs_K σ n = kd ∧ n < hs_N σ) ∧ hs_lvr σ r = true then some (hs_wG σ k n r) else none
def hs_ld (σ : hs_T) (kd n : Nat) (i : Int32) : Option Int32 := if (hs_K σ n = kd ∧ n < hs_N σ) ∧ ¬ (i < 0 ∨ hs_L σ n ≤ i.toNatClampNeg) then some (hs_R σ n i.toNatClampNeg) else none
def hs_st (σ : hs_T) (kd n : Nat) (i v : Int32) : Option hs_T := if (hs_K σ n = kd ∧ n < hs_N σ) ∧ ¬ (i < 0 ∨ hs_L σ n ≤ i.toNatClampNeg) then some (hs_wR σ n i.toNatClampNeg v) else none
def hs_la (σ : hs_T) (n : Nat) (i : Int32) : Option (Option Nat) := if (hs_K σ n = 13 ∧ n < hs_N σ) ∧ ¬ (i < 0 ∨ hs_L σ n ≤ i.toNatClampNeg) then some (hs_O σ n i.toNatClampNeg) else none
def hs_ln (σ : hs_T) (n : Nat) : Option Int32 := if hs_K σ n = 11 ∧ n < hs_N σ then some (nI (hs_L σ n)) else none
def hs_tb (N : Nat) (f : Nat → Int32) (i : Int32) : Option Int32 := if ¬ (i < 0 ∨ N ≤ i.toNatClampNeg) then some (f i.toNatClampNeg) else none
def hs_nz (y : Int32) : Option Unit := if y = 0 then none else some ()
def hs_bz (y : Int32) : Option Unit := if y &&& 1 = y then some () else none
def hs_cp (σ : hs_T) (n0 : Nat) (sp : Int32) (n1 : Nat) (dp n : Int32) : Option hs_T :=
  if (hs_K σ n0 = 11 ∧ n0 < hs_N σ) ∧ (hs_K σ n1 = 11 ∧ n1 < hs_N σ) ∧ ¬ sp < 0 ∧ ¬ dp < 0 ∧ ¬ n < 0 ∧ sp.toNatClampNeg + n.toNatClampNeg ≤ hs_L σ n0 ∧ dp.toNatClampNeg + n.toNatClampNeg ≤ hs_L σ n1 then some (hs_wRow σ n1 (va_cpy (hs_R σ n0) (hs_R σ n1) sp.toNatClampNeg dp.toNatClampNeg n.toNatClampNeg)) else none
def hs_b2 {α β γ : Type} (o : Option (α × β)) (f : α → β → Option γ) : Option γ := o.bind (fun q => f q.1 q.2)
def hs_mt {β : Type} (r : Option Nat) (A : Option β) (B : Nat → Option β) : Option β := match r with
  | none => A
  | some n => B n
def hs_lp {α β : Type} (B : (α → Option β) → α → Option β) : Nat → α → Option β
  | 0 => fun _ => none
  | n + 1 => B (hs_lp B n)
theorem hs_lp_i {α β : Type} {B : (α → Option β) → α → Option β} {b : β} {P : α → Prop} (h : ∀ (k : α → Option β) (a : α), (∀ a', k a' = some b → P a') → B k a = some b → P a) : ∀ (n : Nat) (a : α), hs_lp B n a = some b → P a
  | 0, a, e => by cases e
  | n + 1, a, e => h (hs_lp B n) a (hs_lp_i h n) e
theorem hs_b2i {α β γ : Type} {o : Option (α × β)} {f : α → β → Option γ} {c : γ} (h : hs_b2 o f = some c) : ∃ a b, o = some (a, b) ∧ f a b = some c := by
  obtain ⟨q, h1, h2⟩ := Option.bind_eq_some_iff.mp h
  exact ⟨q.1, q.2, h1, h2⟩
theorem hs_mn {β : Type} {A : Option β} {B : Nat → Option β} {z : Option β} (h : hs_mt none A B = z) : A = z := h
theorem hs_ms {β : Type} {n : Nat} {A : Option β} {B : Nat → Option β} {z : Option β} (h : hs_mt (some n) A B = z) : B n = z := h
theorem hs_mx {β : Type} {r : Option Nat} {B : Nat → Option β} {z : β} (h : hs_mt r none B = some z) : ∃ n, B n = some z ∧ r = some n := by
  cases r with
  | none => cases h
  | some n => exact ⟨n, h, rfl⟩
theorem hs_tt {α : Type} {c : Prop} [Decidable c] {A B z : α} (hc : c) (h : (if c then A else B) = z) : A = z := by rw [if_pos hc] at h; exact h
theorem hs_ff {α : Type} {c : Prop} [Decidable c] {A B z : α} (hc : ¬ c) (h : (if c then A else B) = z) : B = z := by rw [if_neg hc] at h; exact h
theorem hs_ri {α β : Type} {a c : α} {b d : β} (h : some (a, b) = some (c, d)) : a = c ∧ b = d := by cases h; exact ⟨rfl, rfl⟩
theorem hs_si {α : Type} {c : Prop} [Decidable c] {a : α} {z : α} (h : (if c then some a else none) = some z) : c ∧ a = z := by
  by_cases hc : c
  · rw [if_pos hc] at h
    exact ⟨hc, Option.some.inj h⟩
  · rw [if_neg hc] at h
    cases h
theorem hs_nz_i {y : Int32} {u : Unit} (h : hs_nz y = some u) : ¬ y = 0 := by
  intro q
  unfold hs_nz at h
  rw [if_pos q] at h
  cases h
theorem hs_bz_i {y : Int32} {u : Unit} (h : hs_bz y = some u) : y &&& 1 = y := (hs_si h).1
theorem hs_ck_i {σ : hs_T} {kd n : Nat} {u : Unit} (h : hs_ck σ kd n = some u) : hs_ok σ kd n := (hs_si h).1
theorem hs_gN_i {σ : hs_T} {kd n k m : Nat} (h : hs_gN σ kd n k = some m) : hs_ok σ kd n ∧ hs_G σ k n = some m := by
  unfold hs_gN at h
  by_cases hc : hs_K σ n = kd ∧ n < hs_N σ
  · rw [if_pos hc] at h
    exact ⟨hc, h⟩
  · rw [if_neg hc] at h
    cases h
theorem hs_lvr_i {σ : hs_T} {r : Option Nat} (h : hs_lvr σ r = true) : ∀ q, r = some q → q < hs_N σ ∨ q = hs_em := by
  intro q e
  subst e
  exact of_decide_eq_true h
section XRows
variable {p : Program} {l : Launch} {e : Env} {R : Room} {s : State} {m : MethodId} {args : Array Value} {below : List Frame} {meth : Method} {c : Code} {H H0 : Heap} {locs : List Loc} {cells slots : Nat} {Q : State → Prop} {cc : ByteArray} {pc : Nat} {ls : Array Slot} {rest : List Value} {D : va_G} {E : hs_E} {ad : Nat → Nat} {A : Nat → Prop} {σ σ' : hs_T} {X : hs_X}
variable {own ref C host : String} {T : u_T} {N index : Nat} {Ts : List Cond} {kd n : Nat} {ty0 : Nat → FieldType}
theorem x_getI (hx : p.tables.exec = Jvm.exec) (hb : c.code = cc) (hts : ∀ w ∈ Ts, w.before args s = true) (hin : ∀ w ∈ u_ws C T N, w ∈ Ts) (hown : s.vm.findClass own = some m.cls) (hK : va_K D vwCl (hs_ty E) s) (hB : hs_H D E ad A σ H) {v : Int32} (hkd : kd < 11) (hc : vwCl[kd - 1]? = some (C, T, N)) {k : Nat} (hk : k < N) (hsh : (hs_sh kd)[k]? = some false) (hg : hs_gI σ kd n k = some v) (hlink : (Cond.fieldLink own index ref (T k).2.1 (T k).2.2.1).before args s = true) (hsame : ∀ x, s.fieldFound? (T k).1 (T k).2.1 (T k).2.2.1 = some x → s.fieldFound? ref (T k).2.1 (T k).2.2.1 = some x) (hdg : decode cc pc = .ok (.getfield index, 3))
    (kk : W p l e R s m args below meth c H locs cells slots Q (F0 m (pc + 3) ls (.int v :: rest))) : W p l e R s m args below meth c H locs cells slots Q (F0 m pc ls (.ref (ad n) :: rest)) := by
  obtain ⟨hok, rfl⟩ := hs_si hg
  exact hs_getI hx hb hts hin hown hK hB hok hkd hc k hk hsh hlink hsame hdg kk
theorem x_getRn (hx : p.tables.exec = Jvm.exec) (hb : c.code = cc) (hts : ∀ w ∈ Ts, w.before args s = true) (hin : ∀ w ∈ u_ws C T N, w ∈ Ts) (hown : s.vm.findClass own = some m.cls) (hK : va_K D vwCl (hs_ty E) s) (hB : hs_H D E ad A σ H) (hkd : kd < 11) (hc : vwCl[kd - 1]? = some (C, T, N)) {k : Nat} (hk : k < N) (hsh : (hs_sh kd)[k]? = some true) (hg : hs_gR σ kd n k = some none) (hlink : (Cond.fieldLink own index ref (T k).2.1 (T k).2.2.1).before args s = true) (hsame : ∀ x, s.fieldFound? (T k).1 (T k).2.1 (T k).2.2.1 = some x → s.fieldFound? ref (T k).2.1 (T k).2.2.1 = some x) (hdg : decode cc pc = .ok (.getfield index, 3))
    (kk : W p l e R s m args below meth c H locs cells slots Q (F0 m (pc + 3) ls (.null :: rest))) : W p l e R s m args below meth c H locs cells slots Q (F0 m pc ls (.ref (ad n) :: rest)) := by
  obtain ⟨hok, hr⟩ := hs_si hg
  exact hs_getR hx hb hts hin hown hK hB hok hkd hc k hk hsh hlink hsame hr hdg kk
theorem x_getRs (hx : p.tables.exec = Jvm.exec) (hb : c.code = cc) (hts : ∀ w ∈ Ts, w.before args s = true) (hin : ∀ w ∈ u_ws C T N, w ∈ Ts) (hown : s.vm.findClass own = some m.cls) (hK : va_K D vwCl (hs_ty E) s) (hB : hs_H D E ad A σ H) {q : Nat} (hkd : kd < 11) (hc : vwCl[kd - 1]? = some (C, T, N)) {k : Nat} (hk : k < N) (hsh : (hs_sh kd)[k]? = some true) (hg : hs_gR σ kd n k = some (some q)) (hlink : (Cond.fieldLink own index ref (T k).2.1 (T k).2.2.1).before args s = true) (hsame : ∀ x, s.fieldFound? (T k).1 (T k).2.1 (T k).2.2.1 = some x → s.fieldFound? ref (T k).2.1 (T k).2.2.1 = some x) (hdg : decode cc pc = .ok (.getfield index, 3))
    (kk : W p l e R s m args below meth c H locs cells slots Q (F0 m (pc + 3) ls (.ref (ad q) :: rest))) : W p l e R s m args below meth c H locs cells slots Q (F0 m pc ls (.ref (ad n) :: rest)) := by
  obtain ⟨hok, hr⟩ := hs_si hg
  exact hs_getR hx hb hts hin hown hK hB hok hkd hc k hk hsh hlink hsame hr hdg kk
theorem x_getN (hx : p.tables.exec = Jvm.exec) (hb : c.code = cc) (hts : ∀ w ∈ Ts, w.before args s = true) (hin : ∀ w ∈ u_ws C T N, w ∈ Ts) (hown : s.vm.findClass own = some m.cls) (hK : va_K D vwCl (hs_ty E) s) (hB : hs_H D E ad A σ H) {q : Nat} (hkd : kd < 11) (hc : vwCl[kd - 1]? = some (C, T, N)) {k : Nat} (hk : k < N) (hsh : (hs_sh kd)[k]? = some true) (hg : hs_gN σ kd n k = some q) (hlink : (Cond.fieldLink own index ref (T k).2.1 (T k).2.2.1).before args s = true) (hsame : ∀ x, s.fieldFound? (T k).1 (T k).2.1 (T k).2.2.1 = some x → s.fieldFound? ref (T k).2.1 (T k).2.2.1 = some x) (hdg : decode cc pc = .ok (.getfield index, 3))
    (kk : W p l e R s m args below meth c H locs cells slots Q (F0 m (pc + 3) ls (.ref (ad q) :: rest))) : W p l e R s m args below meth c H locs cells slots Q (F0 m pc ls (.ref (ad n) :: rest)) := by
  obtain ⟨hok, hr⟩ := hs_gN_i hg
  exact hs_getR hx hb hts hin hown hK hB hok hkd hc k hk hsh hlink hsame hr hdg kk
theorem x_getIN (hx : p.tables.exec = Jvm.exec) (hb : c.code = cc) (hts : ∀ w ∈ Ts, w.before args s = true) (hin : ∀ w ∈ u_ws C T N, w ∈ Ts) (hown : s.vm.findClass own = some m.cls) (hK : va_K D vwCl (hs_ty E) s) (hB : hs_H D E ad A σ H) {v : Int32} (hkd : kd < 11) (hc : vwCl[kd - 1]? = some (C, T, N)) {k : Nat} (hk : k < N) (hsh : (hs_sh kd)[k]? = some false) (hg : hs_gI σ kd n k = some v) (hlink : va_Nw (.fieldLinkNest own index ref (T k).2.1 (T k).2.2.1 host) s) (hsame : ∀ x, s.fieldFound? (T k).1 (T k).2.1 (T k).2.2.1 = some x → s.fieldFound? ref (T k).2.1 (T k).2.2.1 = some x) (hdg : decode cc pc = .ok (.getfield index, 3))
    (kk : W p l e R s m args below meth c H locs cells slots Q (F0 m (pc + 3) ls (.int v :: rest))) : W p l e R s m args below meth c H locs cells slots Q (F0 m pc ls (.ref (ad n) :: rest)) := by
  obtain ⟨hok, rfl⟩ := hs_si hg
  exact hs_getIN hx hb hts hin hown hK hB hok hkd hc k hk hsh hlink hsame hdg kk
theorem x_getRnN (hx : p.tables.exec = Jvm.exec) (hb : c.code = cc) (hts : ∀ w ∈ Ts, w.before args s = true) (hin : ∀ w ∈ u_ws C T N, w ∈ Ts) (hown : s.vm.findClass own = some m.cls) (hK : va_K D vwCl (hs_ty E) s) (hB : hs_H D E ad A σ H) (hkd : kd < 11) (hc : vwCl[kd - 1]? = some (C, T, N)) {k : Nat} (hk : k < N) (hsh : (hs_sh kd)[k]? = some true) (hg : hs_gR σ kd n k = some none) (hlink : va_Nw (.fieldLinkNest own index ref (T k).2.1 (T k).2.2.1 host) s) (hsame : ∀ x, s.fieldFound? (T k).1 (T k).2.1 (T k).2.2.1 = some x → s.fieldFound? ref (T k).2.1 (T k).2.2.1 = some x) (hdg : decode cc pc = .ok (.getfield index, 3))
    (kk : W p l e R s m args below meth c H locs cells slots Q (F0 m (pc + 3) ls (.null :: rest))) : W p l e R s m args below meth c H locs cells slots Q (F0 m pc ls (.ref (ad n) :: rest)) := by
  obtain ⟨hok, hr⟩ := hs_si hg
  exact hs_getRN hx hb hts hin hown hK hB hok hkd hc k hk hsh hlink hsame hr hdg kk
theorem x_getRsN (hx : p.tables.exec = Jvm.exec) (hb : c.code = cc) (hts : ∀ w ∈ Ts, w.before args s = true) (hin : ∀ w ∈ u_ws C T N, w ∈ Ts) (hown : s.vm.findClass own = some m.cls) (hK : va_K D vwCl (hs_ty E) s) (hB : hs_H D E ad A σ H) {q : Nat} (hkd : kd < 11) (hc : vwCl[kd - 1]? = some (C, T, N)) {k : Nat} (hk : k < N) (hsh : (hs_sh kd)[k]? = some true) (hg : hs_gR σ kd n k = some (some q)) (hlink : va_Nw (.fieldLinkNest own index ref (T k).2.1 (T k).2.2.1 host) s) (hsame : ∀ x, s.fieldFound? (T k).1 (T k).2.1 (T k).2.2.1 = some x → s.fieldFound? ref (T k).2.1 (T k).2.2.1 = some x) (hdg : decode cc pc = .ok (.getfield index, 3))
    (kk : W p l e R s m args below meth c H locs cells slots Q (F0 m (pc + 3) ls (.ref (ad q) :: rest))) : W p l e R s m args below meth c H locs cells slots Q (F0 m pc ls (.ref (ad n) :: rest)) := by
  obtain ⟨hok, hr⟩ := hs_si hg
  exact hs_getRN hx hb hts hin hown hK hB hok hkd hc k hk hsh hlink hsame hr hdg kk
theorem x_getNN (hx : p.tables.exec = Jvm.exec) (hb : c.code = cc) (hts : ∀ w ∈ Ts, w.before args s = true) (hin : ∀ w ∈ u_ws C T N, w ∈ Ts) (hown : s.vm.findClass own = some m.cls) (hK : va_K D vwCl (hs_ty E) s) (hB : hs_H D E ad A σ H) {q : Nat} (hkd : kd < 11) (hc : vwCl[kd - 1]? = some (C, T, N)) {k : Nat} (hk : k < N) (hsh : (hs_sh kd)[k]? = some true) (hg : hs_gN σ kd n k = some q) (hlink : va_Nw (.fieldLinkNest own index ref (T k).2.1 (T k).2.2.1 host) s) (hsame : ∀ x, s.fieldFound? (T k).1 (T k).2.1 (T k).2.2.1 = some x → s.fieldFound? ref (T k).2.1 (T k).2.2.1 = some x) (hdg : decode cc pc = .ok (.getfield index, 3))
    (kk : W p l e R s m args below meth c H locs cells slots Q (F0 m (pc + 3) ls (.ref (ad q) :: rest))) : W p l e R s m args below meth c H locs cells slots Q (F0 m pc ls (.ref (ad n) :: rest)) := by
  obtain ⟨hok, hr⟩ := hs_gN_i hg
  exact hs_getRN hx hb hts hin hown hK hB hok hkd hc k hk hsh hlink hsame hr hdg kk
theorem x_putI (hx : p.tables.exec = Jvm.exec) (hb : c.code = cc) (hts : ∀ w ∈ Ts, w.before args s = true) (hin : ∀ w ∈ u_ws C T N, w ∈ Ts) (hty : ∀ k, k < N → parseFieldDescriptor (T k).2.2.1 = some (ty0 k)) (hnm : ∀ a, a < N → ∀ b, b < N → a ≠ b → (T a).2.1 ≠ (T b).2.1) (hown : s.vm.findClass own = some m.cls) (hK : va_K D vwCl (hs_ty E) s) (hB : hs_H D E ad A σ H) (hS : va_S A H0 H locs) {v : Int32} (hkd : kd < 11) (hc : vwCl[kd - 1]? = some (C, T, N)) {k : Nat} (hk : k < N) (hsh : (hs_sh kd)[k]? = some false) (hg : hs_pI σ kd n k v = some σ') (hlink : (Cond.fieldLink own index ref (T k).2.1 (T k).2.2.1).before args s = true) (hsame : ∀ x, s.fieldFound? (T k).1 (T k).2.1 (T k).2.2.1 = some x → s.fieldFound? ref (T k).2.1 (T k).2.2.1 = some x) (hfin : (T k).2.2.2 = false) (hd : parseFieldDescriptor (T k).2.2.1 = some .int) (hdg : decode cc pc = .ok (.putfield index, 3))
    (kk : ∀ (H1 : Heap) (locs1 : List Loc), hs_H D E ad A σ' H1 → va_S A H0 H1 locs1 → W p l e R s m args below meth c H1 locs1 cells slots Q (F0 m (pc + 3) ls rest)) : W p l e R s m args below meth c H locs cells slots Q (F0 m pc ls (.int v :: .ref (ad n) :: rest)) := by
  obtain ⟨hok, rfl⟩ := hs_si hg
  exact hs_putI hx hb hts hin hty hnm hown hK hB hS hok hkd hc k hk hsh hlink hsame hfin hd hdg kk
theorem x_putRn (hx : p.tables.exec = Jvm.exec) (hb : c.code = cc) (hts : ∀ w ∈ Ts, w.before args s = true) (hin : ∀ w ∈ u_ws C T N, w ∈ Ts) (hty : ∀ k, k < N → parseFieldDescriptor (T k).2.2.1 = some (ty0 k)) (hnm : ∀ a, a < N → ∀ b, b < N → a ≠ b → (T a).2.1 ≠ (T b).2.1) (hown : s.vm.findClass own = some m.cls) (hK : va_K D vwCl (hs_ty E) s) (hB : hs_H D E ad A σ H) (hS : va_S A H0 H locs) (hkd : kd < 11) (hc : vwCl[kd - 1]? = some (C, T, N)) {k : Nat} (hk : k < N) (hsh : (hs_sh kd)[k]? = some true) (hg : hs_pR σ kd n k none = some σ') (hlink : (Cond.fieldLink own index ref (T k).2.1 (T k).2.2.1).before args s = true) (hsame : ∀ x, s.fieldFound? (T k).1 (T k).2.1 (T k).2.2.1 = some x → s.fieldFound? ref (T k).2.1 (T k).2.2.1 = some x) (hfin : (T k).2.2.2 = false) {ty : FieldType} (hd : parseFieldDescriptor (T k).2.2.1 = some ty) (hn : narrow ty (.null) = .null) (hfit : fits ty (.null) = true) (hdg : decode cc pc = .ok (.putfield index, 3))
    (kk : ∀ (H1 : Heap) (locs1 : List Loc), hs_H D E ad A σ' H1 → va_S A H0 H1 locs1 → W p l e R s m args below meth c H1 locs1 cells slots Q (F0 m (pc + 3) ls rest)) : W p l e R s m args below meth c H locs cells slots Q (F0 m pc ls (.null :: .ref (ad n) :: rest)) := by
  obtain ⟨hok, rfl⟩ := hs_si hg
  exact hs_putR hx hb hts hin hty hnm hown hK hB hS hok.1 hkd hc k hk hsh hlink hsame hfin hd none (hs_lvr_i hok.2) rfl hn hfit hdg kk
theorem x_putRs (hx : p.tables.exec = Jvm.exec) (hb : c.code = cc) (hts : ∀ w ∈ Ts, w.before args s = true) (hin : ∀ w ∈ u_ws C T N, w ∈ Ts) (hty : ∀ k, k < N → parseFieldDescriptor (T k).2.2.1 = some (ty0 k)) (hnm : ∀ a, a < N → ∀ b, b < N → a ≠ b → (T a).2.1 ≠ (T b).2.1) (hown : s.vm.findClass own = some m.cls) (hK : va_K D vwCl (hs_ty E) s) (hB : hs_H D E ad A σ H) (hS : va_S A H0 H locs) {q : Nat} (hkd : kd < 11) (hc : vwCl[kd - 1]? = some (C, T, N)) {k : Nat} (hk : k < N) (hsh : (hs_sh kd)[k]? = some true) (hg : hs_pR σ kd n k (some q) = some σ') (hlink : (Cond.fieldLink own index ref (T k).2.1 (T k).2.2.1).before args s = true) (hsame : ∀ x, s.fieldFound? (T k).1 (T k).2.1 (T k).2.2.1 = some x → s.fieldFound? ref (T k).2.1 (T k).2.2.1 = some x) (hfin : (T k).2.2.2 = false) {ty : FieldType} (hd : parseFieldDescriptor (T k).2.2.1 = some ty) (hn : narrow ty (.ref (ad q)) = .ref (ad q)) (hfit : fits ty (.ref (ad q)) = true) (hdg : decode cc pc = .ok (.putfield index, 3))
    (kk : ∀ (H1 : Heap) (locs1 : List Loc), hs_H D E ad A σ' H1 → va_S A H0 H1 locs1 → W p l e R s m args below meth c H1 locs1 cells slots Q (F0 m (pc + 3) ls rest)) : W p l e R s m args below meth c H locs cells slots Q (F0 m pc ls (.ref (ad q) :: .ref (ad n) :: rest)) := by
  obtain ⟨hok, rfl⟩ := hs_si hg
  exact hs_putR hx hb hts hin hty hnm hown hK hB hS hok.1 hkd hc k hk hsh hlink hsame hfin hd (some q) (hs_lvr_i hok.2) rfl hn hfit hdg kk
theorem x_putIN (hx : p.tables.exec = Jvm.exec) (hb : c.code = cc) (hts : ∀ w ∈ Ts, w.before args s = true) (hin : ∀ w ∈ u_ws C T N, w ∈ Ts) (hty : ∀ k, k < N → parseFieldDescriptor (T k).2.2.1 = some (ty0 k)) (hnm : ∀ a, a < N → ∀ b, b < N → a ≠ b → (T a).2.1 ≠ (T b).2.1) (hown : s.vm.findClass own = some m.cls) (hK : va_K D vwCl (hs_ty E) s) (hB : hs_H D E ad A σ H) (hS : va_S A H0 H locs) {v : Int32} (hkd : kd < 11) (hc : vwCl[kd - 1]? = some (C, T, N)) {k : Nat} (hk : k < N) (hsh : (hs_sh kd)[k]? = some false) (hg : hs_pI σ kd n k v = some σ') (hlink : va_Nw (.fieldLinkNest own index ref (T k).2.1 (T k).2.2.1 host) s) (hsame : ∀ x, s.fieldFound? (T k).1 (T k).2.1 (T k).2.2.1 = some x → s.fieldFound? ref (T k).2.1 (T k).2.2.1 = some x) (hfin : (T k).2.2.2 = false) (hd : parseFieldDescriptor (T k).2.2.1 = some .int) (hdg : decode cc pc = .ok (.putfield index, 3))
    (kk : ∀ (H1 : Heap) (locs1 : List Loc), hs_H D E ad A σ' H1 → va_S A H0 H1 locs1 → W p l e R s m args below meth c H1 locs1 cells slots Q (F0 m (pc + 3) ls rest)) : W p l e R s m args below meth c H locs cells slots Q (F0 m pc ls (.int v :: .ref (ad n) :: rest)) := by
  obtain ⟨hok, rfl⟩ := hs_si hg
  exact hs_putIN hx hb hts hin hty hnm hown hK hB hS hok hkd hc k hk hsh hlink hsame hfin hd hdg kk
theorem x_putRnN (hx : p.tables.exec = Jvm.exec) (hb : c.code = cc) (hts : ∀ w ∈ Ts, w.before args s = true) (hin : ∀ w ∈ u_ws C T N, w ∈ Ts) (hty : ∀ k, k < N → parseFieldDescriptor (T k).2.2.1 = some (ty0 k)) (hnm : ∀ a, a < N → ∀ b, b < N → a ≠ b → (T a).2.1 ≠ (T b).2.1) (hown : s.vm.findClass own = some m.cls) (hK : va_K D vwCl (hs_ty E) s) (hB : hs_H D E ad A σ H) (hS : va_S A H0 H locs) (hkd : kd < 11) (hc : vwCl[kd - 1]? = some (C, T, N)) {k : Nat} (hk : k < N) (hsh : (hs_sh kd)[k]? = some true) (hg : hs_pR σ kd n k none = some σ') (hlink : va_Nw (.fieldLinkNest own index ref (T k).2.1 (T k).2.2.1 host) s) (hsame : ∀ x, s.fieldFound? (T k).1 (T k).2.1 (T k).2.2.1 = some x → s.fieldFound? ref (T k).2.1 (T k).2.2.1 = some x) (hfin : (T k).2.2.2 = false) {ty : FieldType} (hd : parseFieldDescriptor (T k).2.2.1 = some ty) (hn : narrow ty (.null) = .null) (hfit : fits ty (.null) = true) (hdg : decode cc pc = .ok (.putfield index, 3))
    (kk : ∀ (H1 : Heap) (locs1 : List Loc), hs_H D E ad A σ' H1 → va_S A H0 H1 locs1 → W p l e R s m args below meth c H1 locs1 cells slots Q (F0 m (pc + 3) ls rest)) : W p l e R s m args below meth c H locs cells slots Q (F0 m pc ls (.null :: .ref (ad n) :: rest)) := by
  obtain ⟨hok, rfl⟩ := hs_si hg
  exact hs_putRN hx hb hts hin hty hnm hown hK hB hS hok.1 hkd hc k hk hsh hlink hsame hfin hd none (hs_lvr_i hok.2) rfl hn hfit hdg kk
theorem x_putRsN (hx : p.tables.exec = Jvm.exec) (hb : c.code = cc) (hts : ∀ w ∈ Ts, w.before args s = true) (hin : ∀ w ∈ u_ws C T N, w ∈ Ts) (hty : ∀ k, k < N → parseFieldDescriptor (T k).2.2.1 = some (ty0 k)) (hnm : ∀ a, a < N → ∀ b, b < N → a ≠ b → (T a).2.1 ≠ (T b).2.1) (hown : s.vm.findClass own = some m.cls) (hK : va_K D vwCl (hs_ty E) s) (hB : hs_H D E ad A σ H) (hS : va_S A H0 H locs) {q : Nat} (hkd : kd < 11) (hc : vwCl[kd - 1]? = some (C, T, N)) {k : Nat} (hk : k < N) (hsh : (hs_sh kd)[k]? = some true) (hg : hs_pR σ kd n k (some q) = some σ') (hlink : va_Nw (.fieldLinkNest own index ref (T k).2.1 (T k).2.2.1 host) s) (hsame : ∀ x, s.fieldFound? (T k).1 (T k).2.1 (T k).2.2.1 = some x → s.fieldFound? ref (T k).2.1 (T k).2.2.1 = some x) (hfin : (T k).2.2.2 = false) {ty : FieldType} (hd : parseFieldDescriptor (T k).2.2.1 = some ty) (hn : narrow ty (.ref (ad q)) = .ref (ad q)) (hfit : fits ty (.ref (ad q)) = true) (hdg : decode cc pc = .ok (.putfield index, 3))
    (kk : ∀ (H1 : Heap) (locs1 : List Loc), hs_H D E ad A σ' H1 → va_S A H0 H1 locs1 → W p l e R s m args below meth c H1 locs1 cells slots Q (F0 m (pc + 3) ls rest)) : W p l e R s m args below meth c H locs cells slots Q (F0 m pc ls (.ref (ad q) :: .ref (ad n) :: rest)) := by
  obtain ⟨hok, rfl⟩ := hs_si hg
  exact hs_putRN hx hb hts hin hty hnm hown hK hB hS hok.1 hkd hc k hk hsh hlink hsame hfin hd (some q) (hs_lvr_i hok.2) rfl hn hfit hdg kk
theorem x_putIF (hx : p.tables.exec = Jvm.exec) (hb : c.code = cc) (hts : ∀ w ∈ Ts, w.before args s = true) (hin : ∀ w ∈ u_ws C T N, w ∈ Ts) (hty : ∀ k, k < N → parseFieldDescriptor (T k).2.2.1 = some (ty0 k)) (hnm : ∀ a, a < N → ∀ b, b < N → a ≠ b → (T a).2.1 ≠ (T b).2.1) (hown : s.vm.findClass own = some m.cls) (hK : va_K D vwCl (hs_ty E) s) (hB : hs_H D E ad A σ H) (hS : va_S A H0 H locs) {v : Int32} (hkd : kd < 11) (hc : vwCl[kd - 1]? = some (C, T, N)) {k : Nat} (hk : k < N) (hsh : (hs_sh kd)[k]? = some false) (hg : hs_pI σ kd n k v = some σ') (hlink : (Cond.fieldLink own index ref (T k).2.1 (T k).2.2.1).before args s = true) (hsame : ∀ x, s.fieldFound? (T k).1 (T k).2.1 (T k).2.2.1 = some x → s.fieldFound? ref (T k).2.1 (T k).2.2.1 = some x) (hfin : (T k).2.2.2 = true) (hin2 : meth.name = "<init>") (hdecl : (T k).1 = own) (hd : parseFieldDescriptor (T k).2.2.1 = some .int) (hdg : decode cc pc = .ok (.putfield index, 3))
    (kk : ∀ (H1 : Heap) (locs1 : List Loc), hs_H D E ad A σ' H1 → va_S A H0 H1 locs1 → W p l e R s m args below meth c H1 locs1 cells slots Q (F0 m (pc + 3) ls rest)) : W p l e R s m args below meth c H locs cells slots Q (F0 m pc ls (.int v :: .ref (ad n) :: rest)) := by
  obtain ⟨hok, rfl⟩ := hs_si hg
  exact hs_putIF hx hb hts hin hty hnm hown hK hB hS hok hkd hc k hk hsh hlink hsame hfin hin2 hdecl hd hdg kk
theorem x_putRnF (hx : p.tables.exec = Jvm.exec) (hb : c.code = cc) (hts : ∀ w ∈ Ts, w.before args s = true) (hin : ∀ w ∈ u_ws C T N, w ∈ Ts) (hty : ∀ k, k < N → parseFieldDescriptor (T k).2.2.1 = some (ty0 k)) (hnm : ∀ a, a < N → ∀ b, b < N → a ≠ b → (T a).2.1 ≠ (T b).2.1) (hown : s.vm.findClass own = some m.cls) (hK : va_K D vwCl (hs_ty E) s) (hB : hs_H D E ad A σ H) (hS : va_S A H0 H locs) (hkd : kd < 11) (hc : vwCl[kd - 1]? = some (C, T, N)) {k : Nat} (hk : k < N) (hsh : (hs_sh kd)[k]? = some true) (hg : hs_pR σ kd n k none = some σ') (hlink : (Cond.fieldLink own index ref (T k).2.1 (T k).2.2.1).before args s = true) (hsame : ∀ x, s.fieldFound? (T k).1 (T k).2.1 (T k).2.2.1 = some x → s.fieldFound? ref (T k).2.1 (T k).2.2.1 = some x) (hfin : (T k).2.2.2 = true) (hin2 : meth.name = "<init>") (hdecl : (T k).1 = own) {ty : FieldType} (hd : parseFieldDescriptor (T k).2.2.1 = some ty) (hn : narrow ty (.null) = .null) (hfit : fits ty (.null) = true) (hdg : decode cc pc = .ok (.putfield index, 3))
    (kk : ∀ (H1 : Heap) (locs1 : List Loc), hs_H D E ad A σ' H1 → va_S A H0 H1 locs1 → W p l e R s m args below meth c H1 locs1 cells slots Q (F0 m (pc + 3) ls rest)) : W p l e R s m args below meth c H locs cells slots Q (F0 m pc ls (.null :: .ref (ad n) :: rest)) := by
  obtain ⟨hok, rfl⟩ := hs_si hg
  exact hs_putRF hx hb hts hin hty hnm hown hK hB hS hok.1 hkd hc k hk hsh hlink hsame hfin hin2 hdecl hd none (hs_lvr_i hok.2) rfl hn hfit hdg kk
theorem x_putRsF (hx : p.tables.exec = Jvm.exec) (hb : c.code = cc) (hts : ∀ w ∈ Ts, w.before args s = true) (hin : ∀ w ∈ u_ws C T N, w ∈ Ts) (hty : ∀ k, k < N → parseFieldDescriptor (T k).2.2.1 = some (ty0 k)) (hnm : ∀ a, a < N → ∀ b, b < N → a ≠ b → (T a).2.1 ≠ (T b).2.1) (hown : s.vm.findClass own = some m.cls) (hK : va_K D vwCl (hs_ty E) s) (hB : hs_H D E ad A σ H) (hS : va_S A H0 H locs) {q : Nat} (hkd : kd < 11) (hc : vwCl[kd - 1]? = some (C, T, N)) {k : Nat} (hk : k < N) (hsh : (hs_sh kd)[k]? = some true) (hg : hs_pR σ kd n k (some q) = some σ') (hlink : (Cond.fieldLink own index ref (T k).2.1 (T k).2.2.1).before args s = true) (hsame : ∀ x, s.fieldFound? (T k).1 (T k).2.1 (T k).2.2.1 = some x → s.fieldFound? ref (T k).2.1 (T k).2.2.1 = some x) (hfin : (T k).2.2.2 = true) (hin2 : meth.name = "<init>") (hdecl : (T k).1 = own) {ty : FieldType} (hd : parseFieldDescriptor (T k).2.2.1 = some ty) (hn : narrow ty (.ref (ad q)) = .ref (ad q)) (hfit : fits ty (.ref (ad q)) = true) (hdg : decode cc pc = .ok (.putfield index, 3))
    (kk : ∀ (H1 : Heap) (locs1 : List Loc), hs_H D E ad A σ' H1 → va_S A H0 H1 locs1 → W p l e R s m args below meth c H1 locs1 cells slots Q (F0 m (pc + 3) ls rest)) : W p l e R s m args below meth c H locs cells slots Q (F0 m pc ls (.ref (ad q) :: .ref (ad n) :: rest)) := by
  obtain ⟨hok, rfl⟩ := hs_si hg
  exact hs_putRF hx hb hts hin hty hnm hown hK hB hS hok.1 hkd hc k hk hsh hlink hsame hfin hin2 hdecl hd (some q) (hs_lvr_i hok.2) rfl hn hfit hdg kk
theorem x_iald (hx : p.tables.exec = Jvm.exec) (hb : c.code = cc) (hK : va_K D vwCl (hs_ty E) s) (hB : hs_H D E ad A σ H) {i v : Int32} (hg : hs_ld σ 11 n i = some v) (hdg : decode cc pc = .ok (.iaload, 1))
    (kk : W p l e R s m args below meth c H locs cells slots Q (F0 m (pc + 1) ls (.int v :: rest))) : W p l e R s m args below meth c H locs cells slots Q (F0 m pc ls (.int i :: .ref (ad n) :: rest)) := by
  obtain ⟨hok, rfl⟩ := hs_si hg
  exact hs_iald hx hb hK hB hok.1 hok.2 hdg kk
theorem x_zald (hx : p.tables.exec = Jvm.exec) (hb : c.code = cc) (hK : va_K D vwCl (hs_ty E) s) (hB : hs_H D E ad A σ H) {i v : Int32} (hg : hs_ld σ 12 n i = some v) (hdg : decode cc pc = .ok (.baload, 1))
    (kk : W p l e R s m args below meth c H locs cells slots Q (F0 m (pc + 1) ls (.int v :: rest))) : W p l e R s m args below meth c H locs cells slots Q (F0 m pc ls (.int i :: .ref (ad n) :: rest)) := by
  obtain ⟨hok, rfl⟩ := hs_si hg
  exact hs_zald hx hb hK hB hok.1 hok.2 hdg kk
theorem x_aald (hx : p.tables.exec = Jvm.exec) (hb : c.code = cc) (hK : va_K D vwCl (hs_ty E) s) (hB : hs_H D E ad A σ H) {i : Int32} {r : Option Nat} (hg : hs_la σ n i = some r) (hdg : decode cc pc = .ok (.aaload, 1))
    (kk : W p l e R s m args below meth c H locs cells slots Q (F0 m (pc + 1) ls (va_rf (r.map ad) :: rest))) : W p l e R s m args below meth c H locs cells slots Q (F0 m pc ls (.int i :: .ref (ad n) :: rest)) := by
  obtain ⟨hok, rfl⟩ := hs_si hg
  exact hs_aald hx hb hK hB hok.1 hok.2 hdg kk
theorem x_iast (hx : p.tables.exec = Jvm.exec) (hb : c.code = cc) (hK : va_K D vwCl (hs_ty E) s) (hB : hs_H D E ad A σ H) (hS : va_S A H0 H locs) {i v : Int32} (hg : hs_st σ 11 n i v = some σ') (hdg : decode cc pc = .ok (.iastore, 1))
    (kk : ∀ (H1 : Heap) (locs1 : List Loc), hs_H D E ad A σ' H1 → va_S A H0 H1 locs1 → W p l e R s m args below meth c H1 locs1 cells slots Q (F0 m (pc + 1) ls rest)) : W p l e R s m args below meth c H locs cells slots Q (F0 m pc ls (.int v :: .int i :: .ref (ad n) :: rest)) := by
  obtain ⟨hok, rfl⟩ := hs_si hg
  exact hs_iast hx hb hK hB hS hok.1 hok.2 hdg kk
theorem x_zast (hx : p.tables.exec = Jvm.exec) (hb : c.code = cc) (hK : va_K D vwCl (hs_ty E) s) (hB : hs_H D E ad A σ H) (hS : va_S A H0 H locs) {i v : Int32} (hg : hs_st σ 12 n i (v &&& 1) = some σ') (hdg : decode cc pc = .ok (.bastore, 1))
    (kk : ∀ (H1 : Heap) (locs1 : List Loc), hs_H D E ad A σ' H1 → va_S A H0 H1 locs1 → W p l e R s m args below meth c H1 locs1 cells slots Q (F0 m (pc + 1) ls rest)) : W p l e R s m args below meth c H locs cells slots Q (F0 m pc ls (.int v :: .int i :: .ref (ad n) :: rest)) := by
  obtain ⟨hok, rfl⟩ := hs_si hg
  exact hs_zast hx hb hK hB hS hok.1 hok.2 hdg kk
theorem x_alen (hx : p.tables.exec = Jvm.exec) (hb : c.code = cc) (hK : va_K D vwCl (hs_ty E) s) (hB : hs_H D E ad A σ H) {v : Int32} (hg : hs_ln σ n = some v) (hdg : decode cc pc = .ok (.arraylength, 1))
    (kk : W p l e R s m args below meth c H locs cells slots Q (F0 m (pc + 1) ls (.int v :: rest))) : W p l e R s m args below meth c H locs cells slots Q (F0 m pc ls (.ref (ad n) :: rest)) := by
  obtain ⟨hok, rfl⟩ := hs_si hg
  exact hs_alen hx hb hK hB hok hdg kk
theorem x_tld (hx : p.tables.exec = Jvm.exec) (hb : c.code = cc) {t n0 M : Nat} {f : Nat → Int32} {nm : String} (hZ : hs_Z1 t n0 M f nm s s.heap) (hA0 : ∀ q, A q → n0 ≤ q) (hS : va_S A s.heap H locs) {i v : Int32} (hg : hs_tb M f i = some v) (hdg : decode cc pc = .ok (.iaload, 1))
    (kk : W p l e R s m args below meth c H locs cells slots Q (F0 m (pc + 1) ls (.int v :: rest))) : W p l e R s m args below meth c H locs cells slots Q (F0 m pc ls (.int i :: .ref t :: rest)) := by
  obtain ⟨hok, rfl⟩ := hs_si hg
  exact hs_tld hx hb hZ hA0 hS hok hdg kk
theorem x_copy (hx : p.tables.exec = Jvm.exec) (hb : c.code = cc) (hml : c.maxLocals = ls.size) (hown : s.vm.findClass own = some m.cls) (hlink : (Cond.methodLink own index arraycopyName).before args s = true) (hnat : (Cond.native arraycopyName).before args s = true) (hstat : (Cond.static arraycopyName).before args s = true) (hini : (Cond.initialized "java/lang/System").before args s = true)
    (hK : va_K D vwCl (hs_ty E) s) (hB : hs_H D E ad A σ H) (hS : va_S A H0 H locs) {n0 n1 : Nat} {sp dp k : Int32} (hg : hs_cp σ n0 sp n1 dp k = some σ')
    (hframes : 1 ≤ R.frames) (hlocals : (rest.map fun v => v.category).sum + (nativeFrameWords "java/lang/System" "arraycopy" 5 + 11) ≤ R.locals) (hdg : decode cc pc = .ok (.invokestatic index, 3))
    (kk : ∀ (H1 : Heap) (locs1 : List Loc), hs_H D E ad A σ' H1 → va_S A H0 H1 locs1 → W p l e R s m args below meth c H1 locs1 cells slots Q (F0 m (pc + 3) ls rest)) : W p l e R s m args below meth c H locs cells slots Q (F0 m pc ls (.int k :: .int dp :: .ref (ad n1) :: .int sp :: .ref (ad n0) :: rest)) := by
  obtain ⟨⟨h0, h1, h2, h3, h4, h5, h6⟩, rfl⟩ := hs_si hg
  exact hs_copy hx hb hml hown hlink hnat hstat hini hK hB hS h0 h1 h2 h3 h4 h5 h6 hframes hlocals hdg kk
theorem x_cast (hx : p.tables.exec = Jvm.exec) (hb : c.code = cc) (hown : s.vm.findClass own = some m.cls) (hlink : (Cond.classLink own index C).before args s = true) (hK : va_K D vwCl (hs_ty E) s) (hB : hs_H D E ad A σ H) (hok : hs_ok σ kd n) (hkd : kd < 11) (hc : vwCl[kd - 1]? = some (C, T, N)) (hdg : decode cc pc = .ok (.checkcast index, 3))
    (kk : W p l e R s m args below meth c H locs cells slots Q (F0 m (pc + 3) ls (.ref (ad n) :: rest))) : W p l e R s m args below meth c H locs cells slots Q (F0 m pc ls (.ref (ad n) :: rest)) :=
  va_castS hx hb hown hlink (hK.1 (kd - 1) (C, T, N) hc).2 (hs_recv hK hB hok hkd hc) hdg kk
end XRows
