/-! The schema -/
def Sc : Type := (Nat × Nat) × (Nat → Int) × (Nat → Int) × (Nat → Int) × (Nat → Int) × (Nat → Int) × (Nat → Int) × (Nat → Int) × (Nat → Int) × (Nat → Nat)
def Sc.nf (S : Sc) : Nat := S.1.1
def Sc.nl (S : Sc) : Nat := S.1.2
def Sc.kd (S : Sc) : Nat → Int := S.2.1
def Sc.gr (S : Sc) : Nat → Int := S.2.2.1
def Sc.lf (S : Sc) : Nat → Int := S.2.2.2.1
def Sc.sd (S : Sc) : Nat → Int := S.2.2.2.2.1
def Sc.sr (S : Sc) : Nat → Int := S.2.2.2.2.2.1
def Sc.ln (S : Sc) : Nat → Int := S.2.2.2.2.2.2.1
def Sc.nm (S : Sc) : Nat → Int := S.2.2.2.2.2.2.2.1
def Sc.tw (S : Sc) : Nat → Int := S.2.2.2.2.2.2.2.2.1
def Sc.fo (S : Sc) : Nat → Nat := S.2.2.2.2.2.2.2.2.2
def Sc.fu (S : Sc) (l : Nat) : Int := if l < S.nl then S.sd (S.fo l) else 0
/-- bounds -/
def Sc.ok (S : Sc) : Prop := S.nf ≤ 16 ∧ S.nl ≤ 8 ∧ (∀ f, 0 ≤ S.kd f ∧ S.kd f ≤ 2) ∧ (∀ f : Nat, -1 ≤ S.gr f ∧ S.gr f < f) ∧ (∀ f, -1 ≤ S.lf f ∧ S.lf f ≤ 7) ∧ (∀ f, 0 ≤ S.sd f ∧ S.sd f ≤ 9) ∧ (∀ f, 0 ≤ S.sr f ∧ S.sr f ≤ 9) ∧ (∀ f, 0 ≤ S.ln f ∧ S.ln f ≤ 4) ∧ (∀ f, 0 ≤ S.nm f ∧ S.nm f ≤ 255) ∧ (∀ f, -1 ≤ S.tw f ∧ S.tw f ≤ 15) ∧ (∀ l, l < S.nl → S.fo l < S.nf ∧ S.lf (S.fo l) = l)
/-- the first around k (or itself) that is so; NONE -/
def upF (gr : Nat → Int) (p : Nat → Bool) : Nat → Int → Int
  | 0, _ => -1
  | n + 1, k => if k = -1 then -1 else if p k.toNat = true then k else upF gr p n (gr k.toNat)
def Sc.up (S : Sc) (p : Nat → Bool) (k : Int) : Int := upF S.gr p 17 k
/-- whether the field k (NONE: none) is g or stands in it -/
def Sc.ins (S : Sc) (k : Int) (g : Nat) : Bool := decide (S.up (fun f => decide (f = g)) k ≠ -1)
def Sc.both (S : Sc) (a b : Nat) : Int := S.up (fun g => S.ins (S.fo b) g) (S.gr (S.fo a))
def Sc.many (S : Sc) (l : Nat) (x : Int) : Int := S.up (fun f => decide (S.kd f = 2 ∧ S.sr f = x)) (S.fo l)
theorem upF_st (gr : Nat → Int) (p : Nat → Bool) (hg : ∀ f : Nat, -1 ≤ gr f ∧ gr f < f) : ∀ (n m : Nat) (k : Int), -1 ≤ k → k < n → k < m → upF gr p n k = upF gr p m k := by
  intro n
  induction n with
  | zero =>
    intro m k h1 h2 h3
    cases m with
    | zero => rfl
    | succ m =>
      have : k = -1 := by omega
      simp [upF, this]
  | succ n ih =>
    intro m k h1 h2 h3
    cases m with
    | zero =>
      have : k = -1 := by omega
      simp [upF, this]
    | succ m =>
      unfold upF
      by_cases c : k = -1
      · simp [c]
      · have := hg k.toNat
        simp only [c, if_false]
        rw [ih m (gr k.toNat) this.1 (by omega) (by omega)]
theorem Sc.up_eq (S : Sc) (p : Nat → Bool) (k : Int) (hg : ∀ f : Nat, -1 ≤ S.gr f ∧ S.gr f < f) (h1 : -1 ≤ k) (h2 : k ≤ 16) : S.up p k = if k = -1 then -1 else if p k.toNat = true then k else S.up p (S.gr k.toNat) := by
  unfold Sc.up
  by_cases c : k = -1
  · simp [c, upF]
  · conv => lhs; unfold upF
    simp only [c, if_false]
    have := hg k.toNat
    rw [upF_st S.gr p hg 16 17 (S.gr k.toNat) this.1 (by omega) (by omega)]
theorem upF_ge (gr : Nat → Int) (p : Nat → Bool) (hg : ∀ f : Nat, -1 ≤ gr f ∧ gr f < f) : ∀ (n : Nat) (k : Int), -1 ≤ k → -1 ≤ upF gr p n k ∧ upF gr p n k ≤ k ∧ (upF gr p n k ≠ -1 → p (upF gr p n k).toNat = true) := by
  intro n
  induction n with
  | zero => intro k h; simp [upF]; omega
  | succ n ih =>
    intro k h
    unfold upF
    have h2 := hg k.toNat
    have := ih (gr k.toNat) h2.1
    split
    · refine ⟨by omega, by omega, fun h => absurd rfl h⟩
    · split
      · exact ⟨by omega, by omega, fun _ => by assumption⟩
      · exact ⟨this.1, by omega, this.2.2⟩
/-- bits of an int -/
def bt (x : Int32) (i : Nat) : Bool := x.toBitVec.getLsbD i
def lowF (p : Nat → Bool) : Nat → Nat → Int
  | 0, _ => -1
  | k + 1, j => if p j = true then (j : Int) else lowF p k (j + 1)
theorem lowF_ge (p : Nat → Bool) : ∀ (k j : Nat), (lowF p k j = -1 ∧ ∀ i, j ≤ i → i < j + k → p i = false) ∨ ((j : Int) ≤ lowF p k j ∧ lowF p k j < j + k ∧ p (lowF p k j).toNat = true ∧ ∀ i, j ≤ i → (i : Int) < lowF p k j → p i = false) := by
  intro k
  induction k with
  | zero => intro j; left; exact ⟨rfl, fun i h1 h2 => by omega⟩
  | succ k ih =>
    intro j
    unfold lowF
    by_cases c : p j = true
    · right
      simp only [c, if_true]
      refine ⟨by omega, by omega, by simpa using c, fun i h1 h2 => by omega⟩
    · rw [if_neg c]
      rcases ih (j + 1) with ⟨h1, h2⟩ | ⟨h1, h2, h3, h4⟩
      · left
        refine ⟨h1, fun i h3 h4 => ?_⟩
        by_cases e : i = j
        · subst e; simpa using c
        · exact h2 i (by omega) (by omega)
      · right
        refine ⟨by omega, by omega, h3, fun i h5 h6 => ?_⟩
        by_cases e : i = j
        · subst e; simpa using c
        · exact h4 i (by omega) (by omega)
theorem lowF_congr {p q : Nat → Bool} : ∀ (k j : Nat), (∀ i, j ≤ i → i < j + k → p i = q i) → lowF p k j = lowF q k j := by
  intro k
  induction k with
  | zero => intro j _; rfl
  | succ k ih =>
    intro j h
    unfold lowF
    rw [h j (by omega) (by omega), ih (j + 1) (fun i h1 h2 => h i (by omega) (by omega))]
theorem lowF_trunc {p : Nat → Bool} : ∀ (a b j : Nat), (∀ i, j + a ≤ i → p i = false) → lowF p (a + b) j = lowF p a j := by
  intro a
  induction a with
  | zero =>
    intro b
    induction b with
    | zero => intro j _; rfl
    | succ b ih =>
      intro j h
      rw [show 0 + (b + 1) = (0 + b) + 1 by omega]
      unfold lowF
      rw [h j (by omega)]
      simp only [Bool.false_eq_true, if_false]
      exact ih (j + 1) (fun i h1 => h i (by omega))
  | succ a ih =>
    intro b j h
    rw [show a + 1 + b = (a + b) + 1 by omega]
    unfold lowF
    rw [ih b (j + 1) (fun i h1 => h i (by omega))]
theorem nat31 {i : Nat} (h : i < 32) : i &&& 31 = i := by
  have := Nat.and_two_pow_sub_one_eq_mod i 5
  simp only [Nat.reducePow, Nat.reduceSub] at this
  omega
theorem bt_nat {a : Int} (h1 : 0 ≤ a) {i : Nat} (h2 : i < 32) : bt (i32 a) i = a.toNat.testBit i := by
  obtain ⟨n, rfl⟩ : ∃ n : Nat, a = n := ⟨a.toNat, by omega⟩
  unfold bt i32
  show (BitVec.ofInt 32 (n : Int)).getLsbD i = _
  rw [BitVec.ofInt_natCast, BitVec.getLsbD_ofNat]
  simp [h2]
theorem bt_and (x y : Int32) (i : Nat) : bt (x &&& y) i = (bt x i && bt y i) := by
  unfold bt
  simp
theorem bt_ext {x y : Int32} (h : ∀ i, i < 32 → bt x i = bt y i) : x = y := by
  apply Int32.toBitVec.inj
  exact BitVec.eq_of_getLsbD_eq h
theorem bt_one (i : Nat) (h : i < 32) : bt (i32 1) i = decide (i = 0) := by
  rw [bt_nat (by omega) h]
  have : ∀ i : Fin 32, Nat.testBit 1 i.val = decide (i.val = 0) := by decide
  exact this ⟨i, h⟩
theorem bt_zero (i : Nat) : bt (i32 0) i = false := by
  unfold bt
  show (0#32).getLsbD i = false
  simp
/-- the low bit, told as a number -/
theorem low_one (x : Int32) : x &&& i32 1 = if bt x 0 = true then i32 1 else i32 0 := by
  apply bt_ext
  intro i hi
  rw [bt_and, bt_one i hi]
  by_cases h : i = 0
  · subst h
    by_cases c : bt x 0 = true
    · simp [c, bt_one 0]
    · simp [c, bt_zero]
  · by_cases c : bt x 0 = true
    · simp [c, h, bt_one i hi]
    · simp [c, h, bt_zero]
theorem ush_bt (x : Int32) {i : Nat} (h : i < 32) : bt ((x.toUInt32 >>> ((i32 i).toUInt32 &&& Int32.toUInt32 (i32 31))).toInt32) 0 = bt x i := by
  have e : ((i32 (i : Int)).toUInt32 &&& Int32.toUInt32 (i32 31)).toNat = i := by
    rw [UInt32.toNat_and]
    show (BitVec.ofInt 32 (i : Int)).toNat &&& 31 = i
    rw [BitVec.ofInt_natCast, BitVec.toNat_ofNat, Nat.mod_eq_of_lt (by omega), nat31 h]
  unfold bt
  show ((x.toUInt32 >>> ((i32 i).toUInt32 &&& Int32.toUInt32 (i32 31))).toBitVec).getLsbD 0 = _
  rw [UInt32.toBitVec_shiftRight]
  show (x.toBitVec >>> (((i32 (i : Int)).toUInt32 &&& Int32.toUInt32 (i32 31)).toBitVec % 32)).getLsbD 0 = _
  have e2 : (((i32 (i : Int)).toUInt32 &&& Int32.toUInt32 (i32 31)).toBitVec % 32).toNat = i := by
    rw [BitVec.toNat_umod]
    show ((i32 (i : Int)).toUInt32 &&& Int32.toUInt32 (i32 31)).toNat % 32 = i
    rw [e]
    omega
  rw [BitVec.ushiftRight_eq', BitVec.getLsbD_ushiftRight, e2]
  simp
/-- a bit of an int, by the class's words -/
theorem ubit (x : Int32) {i : Nat} (h : i < 32) : (x.toUInt32 >>> ((i32 i).toUInt32 &&& Int32.toUInt32 (i32 31))).toInt32 &&& i32 1 = if bt x i = true then i32 1 else i32 0 := by
  rw [low_one, ush_bt x h]
theorem ssh_bt (x : Int32) {i : Nat} (h : i < 32) : bt (x >>> (i32 i &&& i32 31)) 0 = bt x i := by
  unfold bt
  rw [Int32.toBitVec_shiftRight]
  have e2 : ((i32 (i : Int) &&& i32 31).toBitVec.smod 32).toNat = i := by
    have : (i32 (i : Int) &&& i32 31).toBitVec = BitVec.ofNat 32 i := by
      apply BitVec.eq_of_toNat_eq
      rw [Int32.toBitVec_and, BitVec.toNat_and]
      show (BitVec.ofInt 32 (i : Int)).toNat &&& 31 = _
      rw [BitVec.ofInt_natCast, BitVec.toNat_ofNat, Nat.mod_eq_of_lt (by omega), nat31 h]
    rw [this]
    have : ∀ i : Fin 32, ((BitVec.ofNat 32 i.val).smod 32).toNat = i.val := by decide
    exact this ⟨i, h⟩
  rw [BitVec.sshiftRight_eq', e2, BitVec.getLsbD_sshiftRight]
  simp
  intro h2
  omega
/-- a bit of an int, by the reference's words -/
theorem sbit (x : Int32) {i : Nat} (h : i < 32) : (x >>> (i32 i &&& i32 31)) &&& i32 1 = if bt x i = true then i32 1 else i32 0 := by
  rw [low_one, ssh_bt x h]
theorem ite10' {c : Prop} [Decidable c] {α : Type} {x y : α} : (if (if c then i32 1 else i32 0) = i32 1 then x else y) = if c then x else y := by
  have : ¬ (i32 0 = i32 1) := by decide
  by_cases h : c <;> simp [h, this]
