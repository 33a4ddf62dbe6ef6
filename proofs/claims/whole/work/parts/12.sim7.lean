/-! WHAT the functions f_ are written with, and how a contract's proof reads them -/
def ap {α β : Type} (x : α) (f : α → β) : β := f x
def bnd {α β : Type} (x : Option (α × Mem)) (f : α → Mem → Option β) : Option β := match x with
  | some (r, M) => f r M
  | none => none
/-- behind a callee that may throw: what it throws goes on -/
def bndX {α β : Type} (x : Option ((Nat ⊕ α) × Mem)) (f : α → Mem → Option ((Nat ⊕ β) × Mem)) : Option ((Nat ⊕ β) × Mem) := match x with
  | some (.inr r, M) => f r M
  | some (.inl e, M) => some (.inl e, M)
  | none => none
def inB (i : Int32) (n : Nat) : Bool := decide (0 ≤ i) && decide (i.toNatClampNeg < n)
def FUEL : Nat := 1000000
theorem ap_some {α β : Type} {x : α} {f : α → Option β} {r : β} (h : ap x f = some r) : f x = some r := h
theorem bnd_some {α β : Type} {x : Option (α × Mem)} {f : α → Mem → Option β} {r : β} (h : bnd x f = some r) : ∃ y M, x = some (y, M) ∧ f y M = some r := by
  cases x with
  | none => cases h
  | some y => exact ⟨y.1, y.2, rfl, h⟩
theorem bndX_some {α β : Type} {x : Option ((Nat ⊕ α) × Mem)} {f : α → Mem → Option ((Nat ⊕ β) × Mem)} {r : (Nat ⊕ β) × Mem} (h : bndX x f = some r) : (∃ e M, x = some (.inl e, M) ∧ r = (.inl e, M)) ∨ ∃ y M, x = some (.inr y, M) ∧ f y M = some r := by
  cases x with
  | none => cases h
  | some y =>
    obtain ⟨y, M⟩ := y
    cases y with
    | inl e => exact Or.inl ⟨e, M, rfl, (Option.some.inj h).symm⟩
    | inr v => exact Or.inr ⟨v, M, rfl, h⟩
theorem ite_t {α : Type} {c : Prop} [Decidable c] {a b r : α} (hc : c) (h : (if c then a else b) = r) : a = r := by rw [if_pos hc] at h; exact h
theorem ite_f {α : Type} {c : Prop} [Decidable c] {a b r : α} (hc : ¬ c) (h : (if c then a else b) = r) : b = r := by rw [if_neg hc] at h; exact h
theorem chk_s {α : Type} {c : Prop} [Decidable c] {a : Option α} {r : α} (h : (if c then a else none) = some r) : c ∧ a = some r := by
  by_cases hc : c
  · rw [if_pos hc] at h; exact ⟨hc, h⟩
  · rw [if_neg hc] at h; cases h
theorem inB_in {i : Int32} {n : Nat} (h : inB i n = true) : vp_in i n := by
  unfold inB at h
  simp only [Bool.and_eq_true, decide_eq_true_eq] at h
  rintro (q | q)
  · exact absurd h.1 (by rw [Int32.not_le]; exact q)
  · exact absurd h.2 (Nat.not_lt.mpr q)
def okrB (M : Mem) (rs : List Nat) : Bool := rs.all (fun r => decide (r ≤ mn M) || decide (1000000 ≤ r))
theorem okrB_ok {M : Mem} {rs : List Nat} {lv : List (Option AV)} {st : List AV} (h : okrB M rs = true) (hr : rfs lv st = rs) : okrs M (rfs lv st) := by
  subst hr
  intro r hr
  have := List.all_eq_true.mp h r hr
  simp only [Bool.or_eq_true, decide_eq_true_eq] at this
  exact this
theorem okrB_1 {M : Mem} {r : Nat} (h : okrB M [r] = true) : okr M r := by
  have := List.all_eq_true.mp h r List.mem_cons_self
  simp only [Bool.or_eq_true, decide_eq_true_eq] at this
  exact this
def copyB (M : Mem) (a0 a : Nat) (sp dp n : Int32) : Bool := decide (0 ≤ sp) && decide (0 ≤ dp) && decide (0 ≤ n) && decide (sp.toNatClampNeg + n.toNatClampNeg ≤ mN M a0) && decide (dp.toNatClampNeg + n.toNatClampNeg ≤ mN M a)
theorem copyB_ok {M : Mem} {a0 a : Nat} {sp dp n : Int32} (h : copyB M a0 a sp dp n = true) : cpOk M a0 a sp dp n := by
  unfold copyB at h
  simp only [Bool.and_eq_true, decide_eq_true_eq] at h
  obtain ⟨⟨⟨⟨h1, h2⟩, h3⟩, h4⟩, h5⟩ := h
  exact ⟨by rw [Int32.not_lt]; exact h1, by rw [Int32.not_lt]; exact h2, by rw [Int32.not_lt]; exact h3, h4, h5⟩
def actsB (M : Mem) (a0 sp n : Nat) : Bool := (List.range n).all (fun j => decide (mK M (mR M a0 (sp + j)) = 1))
theorem actsB_ok {M : Mem} {a0 sp n : Nat} (h : actsB M a0 sp n = true) : ∀ j, j < n → mK M (mR M a0 (sp + j)) = 1 := fun j hj => by
  have := List.all_eq_true.mp h j (List.mem_range.mpr hj)
  simpa using this
def zB (x : Int32) : Bool := decide (x = 0) || decide (x = 1)
theorem zB_ok {x : Int32} (h : zB x = true) : x = 0 ∨ x = 1 := by
  unfold zB at h
  simpa using h
theorem nei {x v : Int32} {z : Int} (h : ¬ x = v) (hv : v.toInt = z) : x.toInt ≠ z := fun q => h (Int32.toInt_inj.mp (q.trans hv.symm))
abbrev oI (x : Int32) : OC := .inl (some (aI x))
abbrev oR (x : Nat) : OC := .inl (some (aR x))
abbrev oU (_ : Unit) : OC := .inl none
def xN (e : Nat) : String := if e = 1 then xNS else xIA
abbrev oX {α : Type} (f : α → OC) (x : Nat ⊕ α) : OC := match x with
  | .inl e => .inr (xN e)
  | .inr v => f v
def mask : List (Option AV) → List Bool → List (Option AV)
  | [], _ => []
  | _ :: l, false :: b => none :: mask l b
  | x :: l, _ :: b => x :: mask l b
  | x :: l, [] => x :: mask l []
theorem mask_get : ∀ (lv : List (Option AV)) (bs : List Bool) (i : Nat) (v : AV), (mask lv bs)[i]? = some (some v) → lv[i]? = some (some v)
  | [], _, i, v, h => by simp [mask] at h
  | x :: l, [], i, v, h => by
    match i, h with
    | 0, h => exact h
    | i + 1, h => exact mask_get l [] i v h
  | x :: l, false :: b, i, v, h => by
    match i, h with
    | 0, h => cases h
    | i + 1, h => exact mask_get l b i v h
  | x :: l, true :: b, i, v, h => by
    match i, h with
    | 0, h => exact h
    | i + 1, h => exact mask_get l b i v h
section RM
variable {mi : MI} {fr : Nat} {o : OC} {M' M : Mem} {pc pc' : Nat} {lv lv' : List (Option AV)} {st : List AV} {k u k' u' : Nat}
/-- fewer locals are told, more room is taken -/
theorem g_mask (bs : List Bool) (h : mask lv bs = lv') (kk : G mi fr o M' pc lv' st M k u) : G mi fr o M' pc lv st M k u := by
  subst h
  intro p l e s m args below meth c E φ0 n0 B φ H locs ls hE hn hD hS hl
  exact kk p l e s m args below meth c E φ0 n0 B φ H locs ls hE hn hD hS ⟨hl.1, hl.2.1, fun i v hv => hl.2.2 i v (mask_get lv bs i v hv)⟩
theorem g_widen (hk : k ≤ k') (hu : u ≤ u') (kk : G mi fr o M' pc lv st M k' u') : G mi fr o M' pc lv st M k u := by
  intro p l e s m args below meth c E φ0 n0 B φ H locs ls hE hn hD hS hl
  exact W.widen hk hu (kk p l e s m args below meth c E φ0 n0 B φ H locs ls hE hn hD hS hl)
theorem g_tsw {dflt lo hi : Int} {offs : Array Int} {len : Nat} {x : Int32} {off : Int} (v : Int32) (d : decode (miC mi) pc = .ok (.tableswitch dflt lo hi offs, len)) (hx : x = v) (h1 : ¬ v.toInt < lo) (h2 : ¬ hi < v.toInt) (ho : offs[(v.toInt - lo).toNat]? = some off) (ht : (pc : Int) + off = (pc' : Int)) (kk : G mi fr o M' pc' lv st M k u) : G mi fr o M' pc lv (aI x :: st) M k u := by
  subst hx
  exact g_tableIn d h1 h2 ho ht kk
end RM
