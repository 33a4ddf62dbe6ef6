/-! The stripes: rep, def, value, sizes, records -/
def St : Type := (Nat → Nat → Int) × (Nat → Nat → Int) × (Nat → Nat → Int) × (Nat → Nat) × Nat
def St.rp (A : St) : Nat → Nat → Int := A.1
def St.df (A : St) : Nat → Nat → Int := A.2.1
def St.vl (A : St) : Nat → Nat → Int := A.2.2.1
def St.sz (A : St) : Nat → Nat := A.2.2.2.1
def St.rc (A : St) : Nat := A.2.2.2.2
/-- the numbers' bounds -/
def St.ok (A : St) : Prop := (∀ l j, 0 ≤ A.rp l j ∧ A.rp l j ≤ 9) ∧ (∀ l j, 0 ≤ A.df l j ∧ A.df l j ≤ 9) ∧ (∀ l j, 0 ≤ A.vl l j ∧ A.vl l j ≤ 999) ∧ (∀ l, A.sz l ≤ 120) ∧ A.rc ≤ 30
/-- the class's columns at b (21: now, 56: kept); fu: the def of each leaf -/
def CC (M : Mem) (b : Nat) (fu : Nat → Int) (A : St) : Prop := A.ok ∧ (∀ l, l < 8 → mI M (b + 4 * l) 3 = i32 (A.sz l)) ∧ (∀ l j, l < 8 → j < A.sz l → mI M (b + 4 * l + 1) j = i32 (A.rp l j)) ∧ (∀ l j, l < 8 → j < A.sz l → mI M (b + 4 * l + 2) j = i32 (A.df l j)) ∧ (∀ l j, l < 8 → j < A.sz l → mI M (b + 4 * l + 3) j = i32 (A.vl l j)) ∧ (∀ l, l < 8 → mI M (b + 4 * l) 4 = i32 (fu l)) ∧ (∀ l, 0 ≤ fu l ∧ fu l ≤ 9)
/-- where the record begins: the entry of rep 0 behind r others; NONE -/
def firstFrom (rp : Nat → Int) (r : Int) : Nat → Nat → Int → Int
  | 0, _, _ => -1
  | k + 1, j, a => if rp j = 0 then (if a = r then (j : Int) else firstFrom rp r k (j + 1) (a + 1)) else firstFrom rp r k (j + 1) a
/-- the first entry from j on whose rep is x or less; else the end -/
def behF (rp : Nat → Int) (x : Int) : Nat → Nat → Nat
  | 0, j => j
  | k + 1, j => if rp j ≤ x then j else behF rp x k (j + 1)
section
variable {M : Mem} {b l : Nat} {fu : Nat → Int} {A : St}
theorem X2_firstOf (hL : ColLay M b) (hC : CC M b fu A) (hl : l < 8) (r : Int) (h0 : 0 ≤ r) (h30 : r ≤ 2147483647) : f_X2_firstOf (b + 4 * l) (i32 r) M = some (i32 (firstFrom (A.rp l) r (A.sz l) 0 0), M) := by
  obtain ⟨hok, hs, hr, -⟩ := hC
  have hz := hok.2.2.2.1 l
  have H : ∀ (k j n : Nat) (a : Int), j + k = A.sz l → k < n → 0 ≤ a → a ≤ j → 
      f_X2_firstOf_4 n (b + 4 * l) (i32 r) (i32 a) (i32 j) M = some (i32 (firstFrom (A.rp l) r k j a), M) := by
    intro k
    induction k with
    | zero =>
      intro j n a hj hn q0 q1
      obtain ⟨n, rfl⟩ : ∃ m, n = m + 1 := ⟨n - 1, by omega⟩
      have h1 := hok.1 l j
      simp (disch := omega) only [add_i0, cast_add1, cast_sub1, toNat120, i32_lit, i32_neg, i32_add, i32_sub, i32_mul, i32_nat, i32_le, i32_lt, i32_eq, inB_i, Int.toNat_natCast, mI_sI_eq, mI_sI_ne, mR_sR_eq, mR_sR_ne, mI_sR, mR_sI, mK_sI, mN_sI, mn_sI, mJ_sI, mK_sR, mN_sR, mn_sR, mJ_sR, mI_wI, mR_wI, mK_wI, mN_wI, mn_wI, mJ_wI, bnd_of, bndX_r, bndX_l, ap_of, if_true, if_false, if_pos, if_neg, ite_true, ite_false, not_true_eq_false, not_false_eq_true, Nat.reduceAdd, Nat.reduceMul, Nat.reduceEqDiff, Int.reduceToNat, Int.reduceNeg, f_X2_firstOf_4, f_X2_firstOf_31, firstFrom, hL, hs, hr]
      (first | done | with_reducible rfl | ((repeat' split) <;> (first | with_reducible rfl | (exfalso; omega) | grind)))
    | succ k ih =>
      intro j n a hj hn q0 q1
      obtain ⟨n, rfl⟩ : ∃ m, n = m + 1 := ⟨n - 1, by omega⟩
      have h1 := hok.1 l j
      simp (disch := omega) only [add_i0, cast_add1, cast_sub1, toNat120, i32_lit, i32_neg, i32_add, i32_sub, i32_mul, i32_nat, i32_le, i32_lt, i32_eq, inB_i, Int.toNat_natCast, mI_sI_eq, mI_sI_ne, mR_sR_eq, mR_sR_ne, mI_sR, mR_sI, mK_sI, mN_sI, mn_sI, mJ_sI, mK_sR, mN_sR, mn_sR, mJ_sR, mI_wI, mR_wI, mK_wI, mN_wI, mn_wI, mJ_wI, bnd_of, bndX_r, bndX_l, ap_of, if_true, if_false, if_pos, if_neg, ite_true, ite_false, not_true_eq_false, not_false_eq_true, Nat.reduceAdd, Nat.reduceMul, Nat.reduceEqDiff, Int.reduceToNat, Int.reduceNeg, f_X2_firstOf_4, f_X2_firstOf_31, firstFrom, hL, hs, hr, ih]
      (first | done | with_reducible rfl | ((repeat' split) <;> (first | with_reducible rfl | (exfalso; omega) | grind)))
  have h := H (A.sz l) 0 FUEL 0 (by omega) (by unfold FUEL; omega) (by omega) (by omega)
  simp only [f_X2_firstOf, i32_lit, i32_neg]
  exact h
theorem X2_hasValue (hL : ColLay M b) (hC : CC M b fu A) (hl : l < 8) {j : Nat} (hj : j < A.sz l) : f_X2_hasValue (b + 4 * l) (i32 j) M = some (if A.df l j = fu l then i32 1 else i32 0, M) := by
  obtain ⟨hok, hs, hr, hd, hv, hf, hf9⟩ := hC
  have hz := hok.2.2.2.1 l
  have h2 := hok.2.1 l j
  have h3 := hf9 l
  simp (disch := omega) only [add_i0, cast_add1, cast_sub1, toNat120, i32_lit, i32_neg, i32_add, i32_sub, i32_mul, i32_nat, i32_le, i32_lt, i32_eq, inB_i, Int.toNat_natCast, mI_sI_eq, mI_sI_ne, mR_sR_eq, mR_sR_ne, mI_sR, mR_sI, mK_sI, mN_sI, mn_sI, mJ_sI, mK_sR, mN_sR, mn_sR, mJ_sR, mI_wI, mR_wI, mK_wI, mN_wI, mn_wI, mJ_wI, bnd_of, bndX_r, bndX_l, ap_of, if_true, if_false, if_pos, if_neg, ite_true, ite_false, not_true_eq_false, not_false_eq_true, Nat.reduceAdd, Nat.reduceMul, Nat.reduceEqDiff, Int.reduceToNat, Int.reduceNeg, f_X2_hasValue, hL, hs, hr, hd, hf]
  (first | done | with_reducible rfl | ((repeat' split) <;> (first | with_reducible rfl | (exfalso; omega) | grind)))
theorem ite10 {c : Prop} [Decidable c] {α : Type} {x y : α} : (if (if c then i32 1 else i32 0) = i32 0 then x else y) = if c then y else x := by
  have : ¬ (i32 1 = i32 0) := by decide
  by_cases h : c <;> simp [h, this]
theorem X2_firsts (hL : ColLay M b) (hC : CC M b fu A) (hl : l < 8) : f_X2_firsts (b + 4 * l) M = some (lp (fun j s => if A.rp l j = 0 then s + i32 1 else s) (A.sz l) 0 (i32 0), M) := by
  obtain ⟨hok, hs, hr, -⟩ := hC
  have hz := hok.2.2.2.1 l
  have H : ∀ (k j n : Nat) (s : Int32), j + k = A.sz l → k < n → 
      f_X2_firsts_4 n (b + 4 * l) s (i32 j) M = some (lp (fun j s => if A.rp l j = 0 then s + i32 1 else s) k j s, M) := by
    intro k
    induction k with
    | zero =>
      intro j n s hj hn 
      obtain ⟨n, rfl⟩ : ∃ m, n = m + 1 := ⟨n - 1, by omega⟩
      have h1 := hok.1 l j
      simp (disch := omega) only [add_i0, cast_add1, cast_sub1, toNat120, i32_lit, i32_neg, i32_add, i32_sub, i32_mul, i32_nat, i32_le, i32_lt, i32_eq, inB_i, Int.toNat_natCast, mI_sI_eq, mI_sI_ne, mR_sR_eq, mR_sR_ne, mI_sR, mR_sI, mK_sI, mN_sI, mn_sI, mJ_sI, mK_sR, mN_sR, mn_sR, mJ_sR, mI_wI, mR_wI, mK_wI, mN_wI, mn_wI, mJ_wI, bnd_of, bndX_r, bndX_l, ap_of, if_true, if_false, if_pos, if_neg, ite_true, ite_false, not_true_eq_false, not_false_eq_true, Nat.reduceAdd, Nat.reduceMul, Nat.reduceEqDiff, Int.reduceToNat, Int.reduceNeg, f_X2_firsts_4, f_X2_firsts_27, lp, hL, hs, hr]
      (first | done | with_reducible rfl | ((repeat' split) <;> (first | with_reducible rfl | (exfalso; omega) | grind)))
    | succ k ih =>
      intro j n s hj hn 
      obtain ⟨n, rfl⟩ : ∃ m, n = m + 1 := ⟨n - 1, by omega⟩
      have h1 := hok.1 l j
      simp (disch := omega) only [add_i0, cast_add1, cast_sub1, toNat120, i32_lit, i32_neg, i32_add, i32_sub, i32_mul, i32_nat, i32_le, i32_lt, i32_eq, inB_i, Int.toNat_natCast, mI_sI_eq, mI_sI_ne, mR_sR_eq, mR_sR_ne, mI_sR, mR_sI, mK_sI, mN_sI, mn_sI, mJ_sI, mK_sR, mN_sR, mn_sR, mJ_sR, mI_wI, mR_wI, mK_wI, mN_wI, mn_wI, mJ_wI, bnd_of, bndX_r, bndX_l, ap_of, if_true, if_false, if_pos, if_neg, ite_true, ite_false, not_true_eq_false, not_false_eq_true, Nat.reduceAdd, Nat.reduceMul, Nat.reduceEqDiff, Int.reduceToNat, Int.reduceNeg, f_X2_firsts_4, f_X2_firsts_27, lp, hL, hs, hr, ih]
      (first | done | with_reducible rfl | ((repeat' split) <;> (first | with_reducible rfl | (exfalso; omega) | grind)))
  have h := H (A.sz l) 0 FUEL (i32 0) (by omega) (by unfold FUEL; omega) 
  simp only [f_X2_firsts, i32_lit, i32_neg]
  exact h
theorem X2_behind (hL : ColLay M b) (hC : CC M b fu A) (hl : l < 8) (e : Int) (x : Int) (h0 : -1 ≤ e) (he : e < A.sz l) (hx : 0 ≤ x) (hx9 : x ≤ 9) : f_X2_behind (b + 4 * l) (i32 e) (i32 x) M = some (i32 (behF (A.rp l) x (A.sz l - (e + 1).toNat) (e + 1).toNat), M) := by
  obtain ⟨hok, hs, hr, -⟩ := hC
  have hz := hok.2.2.2.1 l
  have H : ∀ (k j n : Nat) , j + k = A.sz l → k < n → 
      f_X2_behind_4 n (b + 4 * l) (i32 x) (i32 j) M = some (i32 (behF (A.rp l) x k j), M) := by
    intro k
    induction k with
    | zero =>
      intro j n  hj hn 
      obtain ⟨n, rfl⟩ : ∃ m, n = m + 1 := ⟨n - 1, by omega⟩
      have h1 := hok.1 l j
      simp (disch := omega) only [add_i0, cast_add1, cast_sub1, toNat120, i32_lit, i32_neg, i32_add, i32_sub, i32_mul, i32_nat, i32_le, i32_lt, i32_eq, inB_i, Int.toNat_natCast, mI_sI_eq, mI_sI_ne, mR_sR_eq, mR_sR_ne, mI_sR, mR_sI, mK_sI, mN_sI, mn_sI, mJ_sI, mK_sR, mN_sR, mn_sR, mJ_sR, mI_wI, mR_wI, mK_wI, mN_wI, mn_wI, mJ_wI, bnd_of, bndX_r, bndX_l, ap_of, if_true, if_false, if_pos, if_neg, ite_true, ite_false, not_true_eq_false, not_false_eq_true, Nat.reduceAdd, Nat.reduceMul, Nat.reduceEqDiff, Int.reduceToNat, Int.reduceNeg, f_X2_behind_4, behF, hL, hs, hr]
      (first | done | with_reducible rfl | ((repeat' split) <;> (first | with_reducible rfl | (exfalso; omega) | grind)))
    | succ k ih =>
      intro j n  hj hn 
      obtain ⟨n, rfl⟩ : ∃ m, n = m + 1 := ⟨n - 1, by omega⟩
      have h1 := hok.1 l j
      simp (disch := omega) only [add_i0, cast_add1, cast_sub1, toNat120, i32_lit, i32_neg, i32_add, i32_sub, i32_mul, i32_nat, i32_le, i32_lt, i32_eq, inB_i, Int.toNat_natCast, mI_sI_eq, mI_sI_ne, mR_sR_eq, mR_sR_ne, mI_sR, mR_sI, mK_sI, mN_sI, mn_sI, mJ_sI, mK_sR, mN_sR, mn_sR, mJ_sR, mI_wI, mR_wI, mK_wI, mN_wI, mn_wI, mJ_wI, bnd_of, bndX_r, bndX_l, ap_of, if_true, if_false, if_pos, if_neg, ite_true, ite_false, not_true_eq_false, not_false_eq_true, Nat.reduceAdd, Nat.reduceMul, Nat.reduceEqDiff, Int.reduceToNat, Int.reduceNeg, f_X2_behind_4, behF, hL, hs, hr, ih]
      (first | done | with_reducible rfl | ((repeat' split) <;> (first | with_reducible rfl | (exfalso; omega) | grind)))
  have h := H (A.sz l - (e + 1).toNat) (e + 1).toNat FUEL (by omega) (by unfold FUEL; omega)
  unfold f_X2_behind
  rw [← h]
  simp (disch := omega) only [add_i0, cast_add1, cast_sub1, toNat120, i32_lit, i32_neg, i32_add, i32_sub, i32_mul, i32_nat, i32_le, i32_lt, i32_eq, inB_i, Int.toNat_natCast, mI_sI_eq, mI_sI_ne, mR_sR_eq, mR_sR_ne, mI_sR, mR_sI, mK_sI, mN_sI, mn_sI, mJ_sI, mK_sR, mN_sR, mn_sR, mJ_sR, mI_wI, mR_wI, mK_wI, mN_wI, mn_wI, mJ_wI, bnd_of, bndX_r, bndX_l, ap_of, if_true, if_false, if_pos, if_neg, ite_true, ite_false, not_true_eq_false, not_false_eq_true, Nat.reduceAdd, Nat.reduceMul, Nat.reduceEqDiff, Int.reduceToNat, Int.reduceNeg]
  congr 1
  congr 1
  omega
theorem X2_valueCount (hL : ColLay M b) (hC : CC M b fu A) (hl : l < 8) : f_X2_valueCount (b + 4 * l) M = some (lp (fun j s => if A.df l j = fu l then s + i32 1 else s) (A.sz l) 0 (i32 0), M) := by
  have hv := fun j => @X2_hasValue M b l fu A hL hC hl j
  obtain ⟨hok, hs, hr, -⟩ := hC
  have hz := hok.2.2.2.1 l
  have H : ∀ (k j n : Nat) (s : Int32), j + k = A.sz l → k < n → 
      f_X2_valueCount_4 n (b + 4 * l) s (i32 j) M = some (lp (fun j s => if A.df l j = fu l then s + i32 1 else s) k j s, M) := by
    intro k
    induction k with
    | zero =>
      intro j n s hj hn 
      obtain ⟨n, rfl⟩ : ∃ m, n = m + 1 := ⟨n - 1, by omega⟩
      simp (disch := omega) only [add_i0, cast_add1, cast_sub1, toNat120, i32_lit, i32_neg, i32_add, i32_sub, i32_mul, i32_nat, i32_le, i32_lt, i32_eq, inB_i, Int.toNat_natCast, mI_sI_eq, mI_sI_ne, mR_sR_eq, mR_sR_ne, mI_sR, mR_sI, mK_sI, mN_sI, mn_sI, mJ_sI, mK_sR, mN_sR, mn_sR, mJ_sR, mI_wI, mR_wI, mK_wI, mN_wI, mn_wI, mJ_wI, bnd_of, bndX_r, bndX_l, ap_of, if_true, if_false, if_pos, if_neg, ite_true, ite_false, not_true_eq_false, not_false_eq_true, Nat.reduceAdd, Nat.reduceMul, Nat.reduceEqDiff, Int.reduceToNat, Int.reduceNeg, f_X2_valueCount_4, f_X2_valueCount_26, lp, hL, hs, hv, ite10]
      (first | done | with_reducible rfl | ((repeat' split) <;> (first | with_reducible rfl | (exfalso; omega) | grind)))
    | succ k ih =>
      intro j n s hj hn 
      obtain ⟨n, rfl⟩ : ∃ m, n = m + 1 := ⟨n - 1, by omega⟩
      simp (disch := omega) only [add_i0, cast_add1, cast_sub1, toNat120, i32_lit, i32_neg, i32_add, i32_sub, i32_mul, i32_nat, i32_le, i32_lt, i32_eq, inB_i, Int.toNat_natCast, mI_sI_eq, mI_sI_ne, mR_sR_eq, mR_sR_ne, mI_sR, mR_sI, mK_sI, mN_sI, mn_sI, mJ_sI, mK_sR, mN_sR, mn_sR, mJ_sR, mI_wI, mR_wI, mK_wI, mN_wI, mn_wI, mJ_wI, bnd_of, bndX_r, bndX_l, ap_of, if_true, if_false, if_pos, if_neg, ite_true, ite_false, not_true_eq_false, not_false_eq_true, Nat.reduceAdd, Nat.reduceMul, Nat.reduceEqDiff, Int.reduceToNat, Int.reduceNeg, f_X2_valueCount_4, f_X2_valueCount_26, lp, hL, hs, hv, ite10, ih]
      (first | done | with_reducible rfl | ((repeat' split) <;> (first | with_reducible rfl | (exfalso; omega) | grind)))
  have h := H (A.sz l) 0 FUEL (i32 0) (by omega) (by unfold FUEL; omega) 
  simp only [f_X2_valueCount, i32_lit, i32_neg]
  exact h
theorem X2_valueSum (hL : ColLay M b) (hC : CC M b fu A) (hl : l < 8) : f_X2_valueSum (b + 4 * l) M = some (lp (fun j s => if A.df l j = fu l then s + i32 (A.vl l j) else s) (A.sz l) 0 (i32 0), M) := by
  have hv := fun j => @X2_hasValue M b l fu A hL hC hl j
  obtain ⟨hok, hs, hr, hd, hvl, hf, hf9⟩ := hC
  have hz := hok.2.2.2.1 l
  have H : ∀ (k j n : Nat) (s : Int32), j + k = A.sz l → k < n → 
      f_X2_valueSum_4 n (b + 4 * l) s (i32 j) M = some (lp (fun j s => if A.df l j = fu l then s + i32 (A.vl l j) else s) k j s, M) := by
    intro k
    induction k with
    | zero =>
      intro j n s hj hn 
      obtain ⟨n, rfl⟩ : ∃ m, n = m + 1 := ⟨n - 1, by omega⟩
      simp (disch := omega) only [add_i0, cast_add1, cast_sub1, toNat120, i32_lit, i32_neg, i32_add, i32_sub, i32_mul, i32_nat, i32_le, i32_lt, i32_eq, inB_i, Int.toNat_natCast, mI_sI_eq, mI_sI_ne, mR_sR_eq, mR_sR_ne, mI_sR, mR_sI, mK_sI, mN_sI, mn_sI, mJ_sI, mK_sR, mN_sR, mn_sR, mJ_sR, mI_wI, mR_wI, mK_wI, mN_wI, mn_wI, mJ_wI, bnd_of, bndX_r, bndX_l, ap_of, if_true, if_false, if_pos, if_neg, ite_true, ite_false, not_true_eq_false, not_false_eq_true, Nat.reduceAdd, Nat.reduceMul, Nat.reduceEqDiff, Int.reduceToNat, Int.reduceNeg, f_X2_valueSum_4, f_X2_valueSum_31, lp, hL, hs, hvl, hv, ite10]
      (first | done | with_reducible rfl | ((repeat' split) <;> (first | with_reducible rfl | (exfalso; omega) | grind)))
    | succ k ih =>
      intro j n s hj hn 
      obtain ⟨n, rfl⟩ : ∃ m, n = m + 1 := ⟨n - 1, by omega⟩
      simp (disch := omega) only [add_i0, cast_add1, cast_sub1, toNat120, i32_lit, i32_neg, i32_add, i32_sub, i32_mul, i32_nat, i32_le, i32_lt, i32_eq, inB_i, Int.toNat_natCast, mI_sI_eq, mI_sI_ne, mR_sR_eq, mR_sR_ne, mI_sR, mR_sI, mK_sI, mN_sI, mn_sI, mJ_sI, mK_sR, mN_sR, mn_sR, mJ_sR, mI_wI, mR_wI, mK_wI, mN_wI, mn_wI, mJ_wI, bnd_of, bndX_r, bndX_l, ap_of, if_true, if_false, if_pos, if_neg, ite_true, ite_false, not_true_eq_false, not_false_eq_true, Nat.reduceAdd, Nat.reduceMul, Nat.reduceEqDiff, Int.reduceToNat, Int.reduceNeg, f_X2_valueSum_4, f_X2_valueSum_31, lp, hL, hs, hvl, hv, ite10, ih]
      (first | done | with_reducible rfl | ((repeat' split) <;> (first | with_reducible rfl | (exfalso; omega) | grind)))
  have h := H (A.sz l) 0 FUEL (i32 0) (by omega) (by unfold FUEL; omega) 
  simp only [f_X2_valueSum, i32_lit, i32_neg]
  exact h
theorem X2_least (hL : ColLay M b) (hC : CC M b fu A) (hl : l < 8) : f_X2_least (b + 4 * l) M = some (i32 (lp (fun j s => if A.df l j = fu l ∧ (s = -1 ∨ A.vl l j < s) then A.vl l j else s) (A.sz l) 0 (-1)), M) := by
  have hv := fun j => @X2_hasValue M b l fu A hL hC hl j
  obtain ⟨hok, hs, hr, hd, hvl, hf, hf9⟩ := hC
  have hz := hok.2.2.2.1 l
  have H : ∀ (k j n : Nat) (s : Int), j + k = A.sz l → k < n → -1 ≤ s → s ≤ 999 → 
      f_X2_least_4 n (b + 4 * l) (i32 s) (i32 j) M = some (i32 (lp (fun j s => if A.df l j = fu l ∧ (s = -1 ∨ A.vl l j < s) then A.vl l j else s) k j s), M) := by
    intro k
    induction k with
    | zero =>
      intro j n s hj hn q0 q1
      obtain ⟨n, rfl⟩ : ∃ m, n = m + 1 := ⟨n - 1, by omega⟩
      have h3 := hok.2.2.1 l j
      simp (disch := omega) only [add_i0, cast_add1, cast_sub1, toNat120, i32_lit, i32_neg, i32_add, i32_sub, i32_mul, i32_nat, i32_le, i32_lt, i32_eq, inB_i, Int.toNat_natCast, mI_sI_eq, mI_sI_ne, mR_sR_eq, mR_sR_ne, mI_sR, mR_sI, mK_sI, mN_sI, mn_sI, mJ_sI, mK_sR, mN_sR, mn_sR, mJ_sR, mI_wI, mR_wI, mK_wI, mN_wI, mn_wI, mJ_wI, bnd_of, bndX_r, bndX_l, ap_of, if_true, if_false, if_pos, if_neg, ite_true, ite_false, not_true_eq_false, not_false_eq_true, Nat.reduceAdd, Nat.reduceMul, Nat.reduceEqDiff, Int.reduceToNat, Int.reduceNeg, f_X2_least_4, f_X2_least_35, f_X2_least_42, lp, hL, hs, hvl, hv, ite10]
      (first | done | with_reducible rfl | ((repeat' split) <;> (first | with_reducible rfl | (exfalso; omega) | grind)))
    | succ k ih =>
      intro j n s hj hn q0 q1
      obtain ⟨n, rfl⟩ : ∃ m, n = m + 1 := ⟨n - 1, by omega⟩
      have h3 := hok.2.2.1 l j
      simp (disch := omega) only [add_i0, cast_add1, cast_sub1, toNat120, i32_lit, i32_neg, i32_add, i32_sub, i32_mul, i32_nat, i32_le, i32_lt, i32_eq, inB_i, Int.toNat_natCast, mI_sI_eq, mI_sI_ne, mR_sR_eq, mR_sR_ne, mI_sR, mR_sI, mK_sI, mN_sI, mn_sI, mJ_sI, mK_sR, mN_sR, mn_sR, mJ_sR, mI_wI, mR_wI, mK_wI, mN_wI, mn_wI, mJ_wI, bnd_of, bndX_r, bndX_l, ap_of, if_true, if_false, if_pos, if_neg, ite_true, ite_false, not_true_eq_false, not_false_eq_true, Nat.reduceAdd, Nat.reduceMul, Nat.reduceEqDiff, Int.reduceToNat, Int.reduceNeg, f_X2_least_4, f_X2_least_35, f_X2_least_42, lp, hL, hs, hvl, hv, ite10, ih]
      (first | done | with_reducible rfl | ((repeat' split) <;> (first | with_reducible rfl | (exfalso; omega) | grind)))
  have h := H (A.sz l) 0 FUEL (-1) (by omega) (by unfold FUEL; omega) (by omega) (by omega)
  simp only [f_X2_least, i32_lit, i32_neg]
  exact h
theorem X2_greatest (hL : ColLay M b) (hC : CC M b fu A) (hl : l < 8) : f_X2_greatest (b + 4 * l) M = some (i32 (lp (fun j s => if A.df l j = fu l ∧ s < A.vl l j then A.vl l j else s) (A.sz l) 0 (-1)), M) := by
  have hv := fun j => @X2_hasValue M b l fu A hL hC hl j
  obtain ⟨hok, hs, hr, hd, hvl, hf, hf9⟩ := hC
  have hz := hok.2.2.2.1 l
  have H : ∀ (k j n : Nat) (s : Int), j + k = A.sz l → k < n → -1 ≤ s → s ≤ 999 → 
      f_X2_greatest_4 n (b + 4 * l) (i32 s) (i32 j) M = some (i32 (lp (fun j s => if A.df l j = fu l ∧ s < A.vl l j then A.vl l j else s) k j s), M) := by
    intro k
    induction k with
    | zero =>
      intro j n s hj hn q0 q1
      obtain ⟨n, rfl⟩ : ∃ m, n = m + 1 := ⟨n - 1, by omega⟩
      have h3 := hok.2.2.1 l j
      simp (disch := omega) only [add_i0, cast_add1, cast_sub1, toNat120, i32_lit, i32_neg, i32_add, i32_sub, i32_mul, i32_nat, i32_le, i32_lt, i32_eq, inB_i, Int.toNat_natCast, mI_sI_eq, mI_sI_ne, mR_sR_eq, mR_sR_ne, mI_sR, mR_sI, mK_sI, mN_sI, mn_sI, mJ_sI, mK_sR, mN_sR, mn_sR, mJ_sR, mI_wI, mR_wI, mK_wI, mN_wI, mn_wI, mJ_wI, bnd_of, bndX_r, bndX_l, ap_of, if_true, if_false, if_pos, if_neg, ite_true, ite_false, not_true_eq_false, not_false_eq_true, Nat.reduceAdd, Nat.reduceMul, Nat.reduceEqDiff, Int.reduceToNat, Int.reduceNeg, f_X2_greatest_4, f_X2_greatest_37, lp, hL, hs, hvl, hv, ite10]
      (first | done | with_reducible rfl | ((repeat' split) <;> (first | with_reducible rfl | (exfalso; omega) | grind)))
    | succ k ih =>
      intro j n s hj hn q0 q1
      obtain ⟨n, rfl⟩ : ∃ m, n = m + 1 := ⟨n - 1, by omega⟩
      have h3 := hok.2.2.1 l j
      simp (disch := omega) only [add_i0, cast_add1, cast_sub1, toNat120, i32_lit, i32_neg, i32_add, i32_sub, i32_mul, i32_nat, i32_le, i32_lt, i32_eq, inB_i, Int.toNat_natCast, mI_sI_eq, mI_sI_ne, mR_sR_eq, mR_sR_ne, mI_sR, mR_sI, mK_sI, mN_sI, mn_sI, mJ_sI, mK_sR, mN_sR, mn_sR, mJ_sR, mI_wI, mR_wI, mK_wI, mN_wI, mn_wI, mJ_wI, bnd_of, bndX_r, bndX_l, ap_of, if_true, if_false, if_pos, if_neg, ite_true, ite_false, not_true_eq_false, not_false_eq_true, Nat.reduceAdd, Nat.reduceMul, Nat.reduceEqDiff, Int.reduceToNat, Int.reduceNeg, f_X2_greatest_4, f_X2_greatest_37, lp, hL, hs, hvl, hv, ite10, ih]
      (first | done | with_reducible rfl | ((repeat' split) <;> (first | with_reducible rfl | (exfalso; omega) | grind)))
  have h := H (A.sz l) 0 FUEL (-1) (by omega) (by unfold FUEL; omega) (by omega) (by omega)
  simp only [f_X2_greatest, i32_lit, i32_neg]
  exact h
end
