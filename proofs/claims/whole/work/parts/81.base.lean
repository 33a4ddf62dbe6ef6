/-! PART II, the base: ints as i32 of integers, reads and writes of the memory. -/
def i32 (z : Int) : Int32 := Int32.ofInt z
theorem i32_lit (n : Nat) : (OfNat.ofNat n : Int32) = i32 (OfNat.ofNat n : Int) := rfl
theorem i32_neg (a : Int) : -(i32 a) = i32 (-a) := Int32.neg_ofInt
theorem i32_toInt {a : Int} (h1 : -2147483648 ≤ a) (h2 : a ≤ 2147483647) : (i32 a).toInt = a := Int32.toInt_ofInt_of_le (by omega) (by omega)
theorem i32_of (x : Int32) : i32 x.toInt = x := Int32.ofInt_toInt x
theorem i32_add (a b : Int) : i32 a + i32 b = i32 (a + b) := (Int32.ofInt_add a b).symm
theorem i32_sub (a b : Int) : i32 a - i32 b = i32 (a - b) := (Int32.ofInt_sub a b).symm
theorem i32_mul (a b : Int) : i32 a * i32 b = i32 (a * b) := (Int32.ofInt_mul a b).symm
theorem i32_nat {a : Int} (h1 : -2147483648 ≤ a) (h2 : a ≤ 2147483647) : (i32 a).toNatClampNeg = a.toNat := Int32.toNatClampNeg_ofInt_of_le (by omega) (by omega)
theorem i32_le {a b : Int} (h1 : -2147483648 ≤ a) (h2 : a ≤ 2147483647) (h3 : -2147483648 ≤ b) (h4 : b ≤ 2147483647) : (i32 a ≤ i32 b) = (a ≤ b) := by
  rw [Int32.le_iff_toInt_le, i32_toInt h1 h2, i32_toInt h3 h4]
theorem i32_lt {a b : Int} (h1 : -2147483648 ≤ a) (h2 : a ≤ 2147483647) (h3 : -2147483648 ≤ b) (h4 : b ≤ 2147483647) : (i32 a < i32 b) = (a < b) := by
  rw [Int32.lt_iff_toInt_lt, i32_toInt h1 h2, i32_toInt h3 h4]
theorem i32_eq {a b : Int} (h1 : -2147483648 ≤ a) (h2 : a ≤ 2147483647) (h3 : -2147483648 ≤ b) (h4 : b ≤ 2147483647) : (i32 a = i32 b) = (a = b) := by
  rw [← Int32.toInt_inj, i32_toInt h1 h2, i32_toInt h3 h4]
theorem i32_div {a b : Int} (h1 : 0 ≤ a) (h2 : a ≤ 2147483647) (h3 : 0 < b) (h4 : b ≤ 2147483647) : i32 a / i32 b = i32 (a / b) := by
  rw [← Int32.toInt_inj, Int32.toInt_div_of_ne_right, i32_toInt (by omega) h2, i32_toInt (by omega) h4, Int.tdiv_eq_ediv_of_nonneg h1]
  · have ha : 0 ≤ a / b := Int.ediv_nonneg h1 (by omega)
    have hb : a / b ≤ a := Int.ediv_le_self b h1
    rw [i32_toInt (by omega) (by omega)]
  · intro h
    have := congrArg Int32.toInt h
    rw [i32_toInt (by omega) h4] at this
    have h5 : (-1 : Int32).toInt = -1 := rfl
    omega
theorem inB_i {a : Int} {n : Nat} (h1 : -2147483648 ≤ a) (h2 : a ≤ 2147483647) (h3 : 0 ≤ a) (h4 : a.toNat < n) : (inB (i32 a) n = true) = True := by
  unfold inB
  rw [i32_nat h1 h2]
  have : (0 : Int32) ≤ i32 a := by
    show i32 0 ≤ i32 a
    rw [i32_le (by omega) (by omega) h1 h2]
    exact h3
  simp [this, h4]
theorem cast_add1 (j : Nat) : ((j : Nat) : Int) + 1 = ((j + 1 : Nat) : Int) := rfl
theorem cast_sub1 {j : Nat} (h : 1 ≤ j) : ((j : Nat) : Int) - 1 = ((j - 1 : Nat) : Int) := by omega
theorem toNat120 (l j : Nat) : (120 * (l : Int) + (j : Int)).toNat = 120 * l + j := by omega
theorem add_i0 (s : Int32) : s + i32 0 = s := Int32.add_zero s
/-- a loop that runs k times, from j on -/
def lp {σ : Type} (body : Nat → σ → σ) : Nat → Nat → σ → σ
  | 0, _, s => s
  | k + 1, j, s => lp body k (j + 1) (body j s)
/-- reads behind writes -/
theorem mI_sI_eq {M : Mem} {a k : Nat} {v : Int32} : mI (sI M a k v) a k = v := if_pos ⟨rfl, rfl⟩
theorem mI_sI_ne {M : Mem} {a k b j : Nat} {v : Int32} (h : b ≠ a ∨ j ≠ k) : mI (sI M a k v) b j = mI M b j := if_neg (fun q => h.elim (fun h => h q.1) (fun h => h q.2))
theorem mR_sR_eq {M : Mem} {a k v : Nat} : mR (sR M a k v) a k = v := if_pos ⟨rfl, rfl⟩
theorem mR_sR_ne {M : Mem} {a k b j v : Nat} (h : b ≠ a ∨ j ≠ k) : mR (sR M a k v) b j = mR M b j := if_neg (fun q => h.elim (fun h => h q.1) (fun h => h q.2))
theorem mJ_sJ_eq {M : Mem} {a k : Nat} {v : Int64} : mJ (sJ M a k v) a k = v := if_pos ⟨rfl, rfl⟩
theorem mI_sR {M : Mem} {a k v : Nat} : mI (sR M a k v) = mI M := rfl
theorem mR_sI {M : Mem} {a k : Nat} {v : Int32} : mR (sI M a k v) = mR M := rfl
theorem mK_sI {M : Mem} {a k : Nat} {v : Int32} : mK (sI M a k v) = mK M := rfl
theorem mN_sI {M : Mem} {a k : Nat} {v : Int32} : mN (sI M a k v) = mN M := rfl
theorem mn_sI {M : Mem} {a k : Nat} {v : Int32} : mn (sI M a k v) = mn M := rfl
theorem mJ_sI {M : Mem} {a k : Nat} {v : Int32} : mJ (sI M a k v) = mJ M := rfl
theorem mK_sR {M : Mem} {a k v : Nat} : mK (sR M a k v) = mK M := rfl
theorem mN_sR {M : Mem} {a k v : Nat} : mN (sR M a k v) = mN M := rfl
theorem mn_sR {M : Mem} {a k v : Nat} : mn (sR M a k v) = mn M := rfl
theorem mJ_sR {M : Mem} {a k v : Nat} : mJ (sR M a k v) = mJ M := rfl
theorem mK_sJ {M : Mem} {a k : Nat} {v : Int64} : mK (sJ M a k v) = mK M := rfl
theorem mN_sJ {M : Mem} {a k : Nat} {v : Int64} : mN (sJ M a k v) = mN M := rfl
theorem mn_sJ {M : Mem} {a k : Nat} {v : Int64} : mn (sJ M a k v) = mn M := rfl
theorem mI_sJ {M : Mem} {a k : Nat} {v : Int64} : mI (sJ M a k v) = mI M := rfl
theorem mR_sJ {M : Mem} {a k : Nat} {v : Int64} : mR (sJ M a k v) = mR M := rfl
/-- the memory with other int slots -/
def wI (M : Mem) (F : Nat → Nat → Int32) : Mem := (mK M, mN M, F, mR M, mJ M, mn M)
theorem mI_wI {M : Mem} {F : Nat → Nat → Int32} : mI (wI M F) = F := rfl
theorem mR_wI {M : Mem} {F : Nat → Nat → Int32} : mR (wI M F) = mR M := rfl
theorem mK_wI {M : Mem} {F : Nat → Nat → Int32} : mK (wI M F) = mK M := rfl
theorem mN_wI {M : Mem} {F : Nat → Nat → Int32} : mN (wI M F) = mN M := rfl
theorem mn_wI {M : Mem} {F : Nat → Nat → Int32} : mn (wI M F) = mn M := rfl
theorem mJ_wI {M : Mem} {F : Nat → Nat → Int32} : mJ (wI M F) = mJ M := rfl
theorem bndX_r {α β : Type} {r : α} {M : Mem} {f : α → Mem → Option ((Nat ⊕ β) × Mem)} : bndX (some (.inr r, M)) f = f r M := rfl
theorem bndX_l {α β : Type} {e : Nat} {M : Mem} {f : α → Mem → Option ((Nat ⊕ β) × Mem)} : bndX (some (.inl e, M)) f = some (.inl e, M) := rfl
theorem ap_of {α β : Type} {x : α} {f : α → β} : ap x f = f x := rfl
