/-! More of the columns -/
def anyB (p : Nat → Bool) : Nat → Nat → Bool
  | 0, _ => false
  | k + 1, j => if p j = true then true else anyB p k (j + 1)
/-- pages: entries from j on, k of them -/
def pgF (rp : Nat → Int) (size : Int) : Nat → Nat → Int → Int → Int
  | 0, _, p, _ => p
  | k + 1, j, p, r => if rp j = 0 then (if (behF rp 0 k (j + 1) : Int) - j ≤ size then (if (behF rp 0 k (j + 1) : Int) - j ≤ r then pgF rp size k (j + 1) p (r - ((behF rp 0 k (j + 1) : Int) - j)) else pgF rp size k (j + 1) (p + 1) (size - ((behF rp 0 k (j + 1) : Int) - j))) else -1) else pgF rp size k (j + 1) p r
theorem behF_le (rp : Nat → Int) (x : Int) : ∀ (k j : Nat), j ≤ behF rp x k j ∧ behF rp x k j ≤ j + k := by
  intro k
  induction k with
  | zero => intro j; simp [behF]
  | succ k ih =>
    intro j
    have := ih (j + 1)
    unfold behF
    split <;> omega
/-- a row's runs -/
def runs (row : Nat → Int) (k j : Nat) (s : Int32) : Int32 := lp (fun j s => if j = 0 ∨ row j ≠ row (j - 1) then s + i32 1 else s) k j s
def rollS (A : St) (fu : Nat → Int) (l : Nat) (less : Bool) : Nat → Nat → Int32 → Int32 := lp (fun j s => if A.df l j = fu l then (if less = true then i32 (A.vl l j) - s else s * i32 7 + i32 (A.vl l j) - (s * i32 7 + i32 (A.vl l j)) / i32 1000 * i32 1000) else s)
def pickP (A : St) (fu : Nat → Int) (l : Nat) (h t : Int) (j : Nat) : Bool := decide (A.df l j = fu l ∧ (h = 3 ∨ (h = 0 ∧ A.vl l j = t) ∨ (h = 1 ∧ A.vl l j < t) ∨ (h = 2 ∧ t < A.vl l j)))
section
variable {M : Mem} {b l : Nat} {fu : Nat → Int} {A : St}
theorem X2_runsRep (hL : ColLay M b) (hC : CC M b fu A) (hl : l < 8) : f_X2_runsOf (b + 4 * l) (b + 4 * l + 1) M = some (runs (A.rp l) (A.sz l) 0 (i32 0), M) := by
  obtain ⟨hok, hs, hr, -⟩ := hC
  have hz := hok.2.2.2.1 l
  have H : ∀ (k j n : Nat) (s : Int32), j + k = A.sz l → k < n → 
      f_X2_runsOf_4 n (b + 4 * l) (b + 4 * l + 1) s (i32 j) M = some (runs (A.rp l) k j s, M) := by
    intro k
    induction k with
    | zero =>
      intro j n s hj hn 
      obtain ⟨n, rfl⟩ : ∃ m, n = m + 1 := ⟨n - 1, by omega⟩
      have h1 := hok.1 l j
      have h2 := hok.1 l (j - 1)
      simp (disch := omega) only [add_i0, cast_add1, cast_sub1, toNat120, i32_lit, i32_neg, i32_add, i32_sub, i32_mul, i32_nat, i32_le, i32_lt, i32_eq, inB_i, Int.toNat_natCast, mI_sI_eq, mI_sI_ne, mR_sR_eq, mR_sR_ne, mI_sR, mR_sI, mK_sI, mN_sI, mn_sI, mJ_sI, mK_sR, mN_sR, mn_sR, mJ_sR, mI_wI, mR_wI, mK_wI, mN_wI, mn_wI, mJ_wI, bnd_of, bndX_r, bndX_l, ap_of, if_true, if_false, if_pos, if_neg, ite_true, ite_false, not_true_eq_false, not_false_eq_true, Nat.reduceAdd, Nat.reduceMul, Nat.reduceEqDiff, Int.reduceToNat, Int.reduceNeg, f_X2_runsOf_4, f_X2_runsOf_33, f_X2_runsOf_28, runs, lp, hL, hs, hr]
      (first | done | with_reducible rfl | ((repeat' split) <;> (first | with_reducible rfl | (exfalso; omega) | grind)))
    | succ k ih =>
      intro j n s hj hn 
      obtain ⟨n, rfl⟩ : ∃ m, n = m + 1 := ⟨n - 1, by omega⟩
      have h1 := hok.1 l j
      have h2 := hok.1 l (j - 1)
      unfold runs at ih ⊢
      by_cases c : j = 0
      · subst c
        simp (disch := omega) only [add_i0, cast_add1, cast_sub1, toNat120, i32_lit, i32_neg, i32_add, i32_sub, i32_mul, i32_nat, i32_le, i32_lt, i32_eq, inB_i, Int.toNat_natCast, mI_sI_eq, mI_sI_ne, mR_sR_eq, mR_sR_ne, mI_sR, mR_sI, mK_sI, mN_sI, mn_sI, mJ_sI, mK_sR, mN_sR, mn_sR, mJ_sR, mI_wI, mR_wI, mK_wI, mN_wI, mn_wI, mJ_wI, bnd_of, bndX_r, bndX_l, ap_of, if_true, if_false, if_pos, if_neg, ite_true, ite_false, not_true_eq_false, not_false_eq_true, Nat.reduceAdd, Nat.reduceMul, Nat.reduceEqDiff, Int.reduceToNat, Int.reduceNeg, f_X2_runsOf_4, f_X2_runsOf_33, f_X2_runsOf_28, lp, hL, hs, hr, ih]
        (first | done | with_reducible rfl | ((repeat' split) <;> (first | with_reducible rfl | (exfalso; omega) | grind)))
      · simp (disch := omega) only [add_i0, cast_add1, cast_sub1, toNat120, i32_lit, i32_neg, i32_add, i32_sub, i32_mul, i32_nat, i32_le, i32_lt, i32_eq, inB_i, Int.toNat_natCast, mI_sI_eq, mI_sI_ne, mR_sR_eq, mR_sR_ne, mI_sR, mR_sI, mK_sI, mN_sI, mn_sI, mJ_sI, mK_sR, mN_sR, mn_sR, mJ_sR, mI_wI, mR_wI, mK_wI, mN_wI, mn_wI, mJ_wI, bnd_of, bndX_r, bndX_l, ap_of, if_true, if_false, if_pos, if_neg, ite_true, ite_false, not_true_eq_false, not_false_eq_true, Nat.reduceAdd, Nat.reduceMul, Nat.reduceEqDiff, Int.reduceToNat, Int.reduceNeg, f_X2_runsOf_4, f_X2_runsOf_33, f_X2_runsOf_28, lp, hL, hs, hr, ih]
        (first | done | with_reducible rfl | ((repeat' split) <;> (first | with_reducible rfl | (exfalso; omega) | grind)))
  have h := H (A.sz l) 0 FUEL (i32 0) (by omega) (by unfold FUEL; omega) 
  simp only [f_X2_runsOf, i32_lit, i32_neg]
  exact h
theorem X2_runsDef (hL : ColLay M b) (hC : CC M b fu A) (hl : l < 8) : f_X2_runsOf (b + 4 * l) (b + 4 * l + 2) M = some (runs (A.df l) (A.sz l) 0 (i32 0), M) := by
  obtain ⟨hok, hs, -, hr, -⟩ := hC
  have hz := hok.2.2.2.1 l
  have H : ∀ (k j n : Nat) (s : Int32), j + k = A.sz l → k < n → 
      f_X2_runsOf_4 n (b + 4 * l) (b + 4 * l + 2) s (i32 j) M = some (runs (A.df l) k j s, M) := by
    intro k
    induction k with
    | zero =>
      intro j n s hj hn 
      obtain ⟨n, rfl⟩ : ∃ m, n = m + 1 := ⟨n - 1, by omega⟩
      have h1 := hok.2.1 l j
      have h2 := hok.2.1 l (j - 1)
      simp (disch := omega) only [add_i0, cast_add1, cast_sub1, toNat120, i32_lit, i32_neg, i32_add, i32_sub, i32_mul, i32_nat, i32_le, i32_lt, i32_eq, inB_i, Int.toNat_natCast, mI_sI_eq, mI_sI_ne, mR_sR_eq, mR_sR_ne, mI_sR, mR_sI, mK_sI, mN_sI, mn_sI, mJ_sI, mK_sR, mN_sR, mn_sR, mJ_sR, mI_wI, mR_wI, mK_wI, mN_wI, mn_wI, mJ_wI, bnd_of, bndX_r, bndX_l, ap_of, if_true, if_false, if_pos, if_neg, ite_true, ite_false, not_true_eq_false, not_false_eq_true, Nat.reduceAdd, Nat.reduceMul, Nat.reduceEqDiff, Int.reduceToNat, Int.reduceNeg, f_X2_runsOf_4, f_X2_runsOf_33, f_X2_runsOf_28, runs, lp, hL, hs, hr]
      (first | done | with_reducible rfl | ((repeat' split) <;> (first | with_reducible rfl | (exfalso; omega) | grind)))
    | succ k ih =>
      intro j n s hj hn 
      obtain ⟨n, rfl⟩ : ∃ m, n = m + 1 := ⟨n - 1, by omega⟩
      have h1 := hok.2.1 l j
      have h2 := hok.2.1 l (j - 1)
      unfold runs at ih ⊢
      by_cases c : j = 0
      · subst c
        simp (disch := omega) only [add_i0, cast_add1, cast_sub1, toNat120, i32_lit, i32_neg, i32_add, i32_sub, i32_mul, i32_nat, i32_le, i32_lt, i32_eq, inB_i, Int.toNat_natCast, mI_sI_eq, mI_sI_ne, mR_sR_eq, mR_sR_ne, mI_sR, mR_sI, mK_sI, mN_sI, mn_sI, mJ_sI, mK_sR, mN_sR, mn_sR, mJ_sR, mI_wI, mR_wI, mK_wI, mN_wI, mn_wI, mJ_wI, bnd_of, bndX_r, bndX_l, ap_of, if_true, if_false, if_pos, if_neg, ite_true, ite_false, not_true_eq_false, not_false_eq_true, Nat.reduceAdd, Nat.reduceMul, Nat.reduceEqDiff, Int.reduceToNat, Int.reduceNeg, f_X2_runsOf_4, f_X2_runsOf_33, f_X2_runsOf_28, lp, hL, hs, hr, ih]
        (first | done | with_reducible rfl | ((repeat' split) <;> (first | with_reducible rfl | (exfalso; omega) | grind)))
      · simp (disch := omega) only [add_i0, cast_add1, cast_sub1, toNat120, i32_lit, i32_neg, i32_add, i32_sub, i32_mul, i32_nat, i32_le, i32_lt, i32_eq, inB_i, Int.toNat_natCast, mI_sI_eq, mI_sI_ne, mR_sR_eq, mR_sR_ne, mI_sR, mR_sI, mK_sI, mN_sI, mn_sI, mJ_sI, mK_sR, mN_sR, mn_sR, mJ_sR, mI_wI, mR_wI, mK_wI, mN_wI, mn_wI, mJ_wI, bnd_of, bndX_r, bndX_l, ap_of, if_true, if_false, if_pos, if_neg, ite_true, ite_false, not_true_eq_false, not_false_eq_true, Nat.reduceAdd, Nat.reduceMul, Nat.reduceEqDiff, Int.reduceToNat, Int.reduceNeg, f_X2_runsOf_4, f_X2_runsOf_33, f_X2_runsOf_28, lp, hL, hs, hr, ih]
        (first | done | with_reducible rfl | ((repeat' split) <;> (first | with_reducible rfl | (exfalso; omega) | grind)))
  have h := H (A.sz l) 0 FUEL (i32 0) (by omega) (by unfold FUEL; omega) 
  simp only [f_X2_runsOf, i32_lit, i32_neg]
  exact h
theorem X2_cameAhead (hL : ColLay M b) (hC : CC M b fu A) (hl : l < 8) (e : Nat) (he : e < A.sz l) : f_X2_cameAhead (b + 4 * l) (i32 e) M = some (if anyB (fun i => decide (A.df l i = fu l ∧ A.vl l i = A.vl l e)) e 0 = true then i32 1 else i32 0, M) := by
  have hv := fun j => @X2_hasValue M b l fu A hL hC hl j
  obtain ⟨hok, hs, hr, hd, hvl, hf, hf9⟩ := hC
  have hz := hok.2.2.2.1 l
  have h4 := hok.2.2.1 l e
  have H : ∀ (k j n : Nat) , j + k = e → k < n → 
      f_X2_cameAhead_2 n (b + 4 * l) (i32 e) (i32 j) M = some (if anyB (fun i => decide (A.df l i = fu l ∧ A.vl l i = A.vl l e)) k j = true then i32 1 else i32 0, M) := by
    intro k
    induction k with
    | zero =>
      intro j n  hj hn 
      obtain ⟨n, rfl⟩ : ∃ m, n = m + 1 := ⟨n - 1, by omega⟩
      have h3 := hok.2.2.1 l j
      simp (disch := omega) only [add_i0, cast_add1, cast_sub1, toNat120, i32_lit, i32_neg, i32_add, i32_sub, i32_mul, i32_nat, i32_le, i32_lt, i32_eq, inB_i, Int.toNat_natCast, mI_sI_eq, mI_sI_ne, mR_sR_eq, mR_sR_ne, mI_sR, mR_sI, mK_sI, mN_sI, mn_sI, mJ_sI, mK_sR, mN_sR, mn_sR, mJ_sR, mI_wI, mR_wI, mK_wI, mN_wI, mn_wI, mJ_wI, bnd_of, bndX_r, bndX_l, ap_of, if_true, if_false, if_pos, if_neg, ite_true, ite_false, not_true_eq_false, not_false_eq_true, Nat.reduceAdd, Nat.reduceMul, Nat.reduceEqDiff, Int.reduceToNat, Int.reduceNeg, f_X2_cameAhead_2, anyB]
      simp
    | succ k ih =>
      intro j n  hj hn 
      obtain ⟨n, rfl⟩ : ∃ m, n = m + 1 := ⟨n - 1, by omega⟩
      have h3 := hok.2.2.1 l j
      simp (disch := omega) only [add_i0, cast_add1, cast_sub1, toNat120, i32_lit, i32_neg, i32_add, i32_sub, i32_mul, i32_nat, i32_le, i32_lt, i32_eq, inB_i, Int.toNat_natCast, mI_sI_eq, mI_sI_ne, mR_sR_eq, mR_sR_ne, mI_sR, mR_sI, mK_sI, mN_sI, mn_sI, mJ_sI, mK_sR, mN_sR, mn_sR, mJ_sR, mI_wI, mR_wI, mK_wI, mN_wI, mn_wI, mJ_wI, bnd_of, bndX_r, bndX_l, ap_of, if_true, if_false, if_pos, if_neg, ite_true, ite_false, not_true_eq_false, not_false_eq_true, Nat.reduceAdd, Nat.reduceMul, Nat.reduceEqDiff, Int.reduceToNat, Int.reduceNeg, f_X2_cameAhead_2, f_X2_cameAhead_32, anyB, hL, hs, hvl, hv, ite10, decide_eq_true_eq, ih]
      (first | done | with_reducible rfl | ((repeat' split) <;> (first | with_reducible rfl | (exfalso; omega) | grind)))
  have h := H (e) 0 FUEL  (by omega) (by unfold FUEL; omega) 
  simp only [f_X2_cameAhead, i32_lit, i32_neg]
  exact h
theorem X2_unlikeCount (hL : ColLay M b) (hC : CC M b fu A) (hl : l < 8) : f_X2_unlikeCount (b + 4 * l) M = some (lp (fun e s => if A.df l e = fu l ∧ ¬ anyB (fun i => decide (A.df l i = fu l ∧ A.vl l i = A.vl l e)) e 0 = true then s + i32 1 else s) (A.sz l) 0 (i32 0), M) := by
  have hv := fun j => @X2_hasValue M b l fu A hL hC hl j
  have hca := fun j => @X2_cameAhead M b l fu A hL hC hl j
  obtain ⟨hok, hs, hr, hd, hvl, hf, hf9⟩ := hC
  have hz := hok.2.2.2.1 l
  have H : ∀ (k j n : Nat) (s : Int32), j + k = A.sz l → k < n → 
      f_X2_unlikeCount_4 n (b + 4 * l) s (i32 j) M = some (lp (fun e s => if A.df l e = fu l ∧ ¬ anyB (fun i => decide (A.df l i = fu l ∧ A.vl l i = A.vl l e)) e 0 = true then s + i32 1 else s) k j s, M) := by
    intro k
    induction k with
    | zero =>
      intro j n s hj hn 
      obtain ⟨n, rfl⟩ : ∃ m, n = m + 1 := ⟨n - 1, by omega⟩
      simp (disch := omega) only [add_i0, cast_add1, cast_sub1, toNat120, i32_lit, i32_neg, i32_add, i32_sub, i32_mul, i32_nat, i32_le, i32_lt, i32_eq, inB_i, Int.toNat_natCast, mI_sI_eq, mI_sI_ne, mR_sR_eq, mR_sR_ne, mI_sR, mR_sI, mK_sI, mN_sI, mn_sI, mJ_sI, mK_sR, mN_sR, mn_sR, mJ_sR, mI_wI, mR_wI, mK_wI, mN_wI, mn_wI, mJ_wI, bnd_of, bndX_r, bndX_l, ap_of, if_true, if_false, if_pos, if_neg, ite_true, ite_false, not_true_eq_false, not_false_eq_true, Nat.reduceAdd, Nat.reduceMul, Nat.reduceEqDiff, Int.reduceToNat, Int.reduceNeg, f_X2_unlikeCount_4, f_X2_unlikeCount_33, f_X2_unlikeCount_34, lp, hL, hs, hv, hca, ite10]
      (first | done | with_reducible rfl | ((repeat' split) <;> (first | with_reducible rfl | (exfalso; omega) | grind)))
    | succ k ih =>
      intro j n s hj hn 
      obtain ⟨n, rfl⟩ : ∃ m, n = m + 1 := ⟨n - 1, by omega⟩
      simp (disch := omega) only [add_i0, cast_add1, cast_sub1, toNat120, i32_lit, i32_neg, i32_add, i32_sub, i32_mul, i32_nat, i32_le, i32_lt, i32_eq, inB_i, Int.toNat_natCast, mI_sI_eq, mI_sI_ne, mR_sR_eq, mR_sR_ne, mI_sR, mR_sI, mK_sI, mN_sI, mn_sI, mJ_sI, mK_sR, mN_sR, mn_sR, mJ_sR, mI_wI, mR_wI, mK_wI, mN_wI, mn_wI, mJ_wI, bnd_of, bndX_r, bndX_l, ap_of, if_true, if_false, if_pos, if_neg, ite_true, ite_false, not_true_eq_false, not_false_eq_true, Nat.reduceAdd, Nat.reduceMul, Nat.reduceEqDiff, Int.reduceToNat, Int.reduceNeg, f_X2_unlikeCount_4, f_X2_unlikeCount_33, f_X2_unlikeCount_34, lp, hL, hs, hv, hca, ite10, ih]
      (first | done | with_reducible rfl | ((repeat' split) <;> (first | with_reducible rfl | (exfalso; omega) | grind)))
  have h := H (A.sz l) 0 FUEL (i32 0) (by omega) (by unfold FUEL; omega) 
  simp only [f_X2_unlikeCount, i32_lit, i32_neg]
  exact h
theorem X2_rolled (hL : ColLay M b) (hC : CC M b fu A) (hl : l < 8) (w : Int) (hw0 : 0 ≤ w) (hw1 : w ≤ 1) : f_X2_rolled (b + 4 * l) (i32 w) M = some (rollS A fu l (decide (w ≠ 0)) (A.sz l) 0 (i32 0), M) := by
  have hv := fun j => @X2_hasValue M b l fu A hL hC hl j
  obtain ⟨hok, hs, hr, hd, hvl, hf, hf9⟩ := hC
  have hz := hok.2.2.2.1 l
  have H : ∀ (k j n : Nat) (s : Int32), j + k = A.sz l → k < n → 
      f_X2_rolled_4 n (b + 4 * l) (i32 w) s (i32 j) M = some (rollS A fu l (decide (w ≠ 0)) k j s, M) := by
    intro k
    induction k with
    | zero =>
      intro j n s hj hn 
      obtain ⟨n, rfl⟩ : ∃ m, n = m + 1 := ⟨n - 1, by omega⟩
      simp (disch := omega) only [add_i0, cast_add1, cast_sub1, toNat120, i32_lit, i32_neg, i32_add, i32_sub, i32_mul, i32_nat, i32_le, i32_lt, i32_eq, inB_i, Int.toNat_natCast, mI_sI_eq, mI_sI_ne, mR_sR_eq, mR_sR_ne, mI_sR, mR_sI, mK_sI, mN_sI, mn_sI, mJ_sI, mK_sR, mN_sR, mn_sR, mJ_sR, mI_wI, mR_wI, mK_wI, mN_wI, mn_wI, mJ_wI, bnd_of, bndX_r, bndX_l, ap_of, if_true, if_false, if_pos, if_neg, ite_true, ite_false, not_true_eq_false, not_false_eq_true, Nat.reduceAdd, Nat.reduceMul, Nat.reduceEqDiff, Int.reduceToNat, Int.reduceNeg, f_X2_rolled_4, f_X2_rolled_50, f_X2_rolled_51, rollS, lp, hL, hs, hvl, hv, ite10, decide_eq_true_eq]
      (first | done | with_reducible rfl | ((repeat' split) <;> (first | with_reducible rfl | (exfalso; omega) | grind)))
    | succ k ih =>
      intro j n s hj hn 
      obtain ⟨n, rfl⟩ : ∃ m, n = m + 1 := ⟨n - 1, by omega⟩
      unfold rollS at ih ⊢
      simp (disch := omega) only [add_i0, cast_add1, cast_sub1, toNat120, i32_lit, i32_neg, i32_add, i32_sub, i32_mul, i32_nat, i32_le, i32_lt, i32_eq, inB_i, Int.toNat_natCast, mI_sI_eq, mI_sI_ne, mR_sR_eq, mR_sR_ne, mI_sR, mR_sI, mK_sI, mN_sI, mn_sI, mJ_sI, mK_sR, mN_sR, mn_sR, mJ_sR, mI_wI, mR_wI, mK_wI, mN_wI, mn_wI, mJ_wI, bnd_of, bndX_r, bndX_l, ap_of, if_true, if_false, if_pos, if_neg, ite_true, ite_false, not_true_eq_false, not_false_eq_true, Nat.reduceAdd, Nat.reduceMul, Nat.reduceEqDiff, Int.reduceToNat, Int.reduceNeg, f_X2_rolled_4, f_X2_rolled_50, f_X2_rolled_51, lp, hL, hs, hvl, hv, ite10, decide_eq_true_eq, ih]
      (first | done | with_reducible rfl | ((repeat' split) <;> (first | with_reducible rfl | (exfalso; omega) | grind)))
  have h := H (A.sz l) 0 FUEL (i32 0) (by omega) (by unfold FUEL; omega) 
  simp only [f_X2_rolled, i32_lit, i32_neg]
  exact h
theorem X2_fits (hL : ColLay M b) (hC : CC M b fu A) (hl : l < 8) (s e : Nat) (hse : s ≤ e) (he : e ≤ A.sz l) (h t : Int) (hh : 0 ≤ h) (hh3 : h ≤ 3) (ht1 : -2147483648 ≤ t) (ht2 : t ≤ 2147483647) : f_X2_fits (b + 4 * l) (i32 s) (i32 e) (i32 h) (i32 t) M = some (if (anyB (pickP A fu l h t) (e - s) s = true) ↔ (h = 3) then i32 0 else i32 1, M) := by
  have hv := fun j => @X2_hasValue M b l fu A hL hC hl j
  obtain ⟨hok, hs, hr, hd, hvl, hf, hf9⟩ := hC
  have hz := hok.2.2.2.1 l
  have H : ∀ (k j n : Nat) , j + k = e → k < n → 
      f_X2_fits_3 n (b + 4 * l) (i32 e) (i32 h) (i32 t) (i32 j) M = some (if (anyB (pickP A fu l h t) k j = true) ↔ (h = 3) then i32 0 else i32 1, M) := by
    intro k
    induction k with
    | zero =>
      intro j n  hj hn 
      obtain ⟨n, rfl⟩ : ∃ m, n = m + 1 := ⟨n - 1, by omega⟩
      have h3 := hok.2.2.1 l j
      simp (disch := omega) only [add_i0, cast_add1, cast_sub1, toNat120, i32_lit, i32_neg, i32_add, i32_sub, i32_mul, i32_nat, i32_le, i32_lt, i32_eq, inB_i, Int.toNat_natCast, mI_sI_eq, mI_sI_ne, mR_sR_eq, mR_sR_ne, mI_sR, mR_sI, mK_sI, mN_sI, mn_sI, mJ_sI, mK_sR, mN_sR, mn_sR, mJ_sR, mI_wI, mR_wI, mK_wI, mN_wI, mn_wI, mJ_wI, bnd_of, bndX_r, bndX_l, ap_of, if_true, if_false, if_pos, if_neg, ite_true, ite_false, not_true_eq_false, not_false_eq_true, Nat.reduceAdd, Nat.reduceMul, Nat.reduceEqDiff, Int.reduceToNat, Int.reduceNeg, f_X2_fits_3, anyB]
      simp
      split <;> simp_all
    | succ k ih =>
      intro j n  hj hn 
      obtain ⟨n, rfl⟩ : ∃ m, n = m + 1 := ⟨n - 1, by omega⟩
      have h3 := hok.2.2.1 l j
      have hc : h = 0 ∨ h = 1 ∨ h = 2 ∨ h = 3 := by omega
      rcases hc with rfl | rfl | rfl | rfl
      · simp (disch := omega) only [add_i0, cast_add1, cast_sub1, toNat120, i32_lit, i32_neg, i32_add, i32_sub, i32_mul, i32_nat, i32_le, i32_lt, i32_eq, inB_i, Int.toNat_natCast, mI_sI_eq, mI_sI_ne, mR_sR_eq, mR_sR_ne, mI_sR, mR_sI, mK_sI, mN_sI, mn_sI, mJ_sI, mK_sR, mN_sR, mn_sR, mJ_sR, mI_wI, mR_wI, mK_wI, mN_wI, mn_wI, mJ_wI, bnd_of, bndX_r, bndX_l, ap_of, if_true, if_false, if_pos, if_neg, ite_true, ite_false, not_true_eq_false, not_false_eq_true, Nat.reduceAdd, Nat.reduceMul, Nat.reduceEqDiff, Int.reduceToNat, Int.reduceNeg, f_X2_fits_3, f_X2_fits_41, f_X2_fits_58, f_X2_fits_77, anyB, hL, hs, hvl, hv, ite10, ih]
        simp only [pickP, decide_eq_true_eq]
        (first | done | with_reducible rfl | ((repeat' split) <;> (first | with_reducible rfl | (exfalso; omega) | grind)))
      · simp (disch := omega) only [add_i0, cast_add1, cast_sub1, toNat120, i32_lit, i32_neg, i32_add, i32_sub, i32_mul, i32_nat, i32_le, i32_lt, i32_eq, inB_i, Int.toNat_natCast, mI_sI_eq, mI_sI_ne, mR_sR_eq, mR_sR_ne, mI_sR, mR_sI, mK_sI, mN_sI, mn_sI, mJ_sI, mK_sR, mN_sR, mn_sR, mJ_sR, mI_wI, mR_wI, mK_wI, mN_wI, mn_wI, mJ_wI, bnd_of, bndX_r, bndX_l, ap_of, if_true, if_false, if_pos, if_neg, ite_true, ite_false, not_true_eq_false, not_false_eq_true, Nat.reduceAdd, Nat.reduceMul, Nat.reduceEqDiff, Int.reduceToNat, Int.reduceNeg, f_X2_fits_3, f_X2_fits_41, f_X2_fits_58, f_X2_fits_77, anyB, hL, hs, hvl, hv, ite10, ih]
        simp only [pickP, decide_eq_true_eq]
        (first | done | with_reducible rfl | ((repeat' split) <;> (first | with_reducible rfl | (exfalso; omega) | grind)))
      · simp (disch := omega) only [add_i0, cast_add1, cast_sub1, toNat120, i32_lit, i32_neg, i32_add, i32_sub, i32_mul, i32_nat, i32_le, i32_lt, i32_eq, inB_i, Int.toNat_natCast, mI_sI_eq, mI_sI_ne, mR_sR_eq, mR_sR_ne, mI_sR, mR_sI, mK_sI, mN_sI, mn_sI, mJ_sI, mK_sR, mN_sR, mn_sR, mJ_sR, mI_wI, mR_wI, mK_wI, mN_wI, mn_wI, mJ_wI, bnd_of, bndX_r, bndX_l, ap_of, if_true, if_false, if_pos, if_neg, ite_true, ite_false, not_true_eq_false, not_false_eq_true, Nat.reduceAdd, Nat.reduceMul, Nat.reduceEqDiff, Int.reduceToNat, Int.reduceNeg, f_X2_fits_3, f_X2_fits_41, f_X2_fits_58, f_X2_fits_77, anyB, hL, hs, hvl, hv, ite10, ih]
        simp only [pickP, decide_eq_true_eq]
        (first | done | with_reducible rfl | ((repeat' split) <;> (first | with_reducible rfl | (exfalso; omega) | grind)))
      · simp (disch := omega) only [add_i0, cast_add1, cast_sub1, toNat120, i32_lit, i32_neg, i32_add, i32_sub, i32_mul, i32_nat, i32_le, i32_lt, i32_eq, inB_i, Int.toNat_natCast, mI_sI_eq, mI_sI_ne, mR_sR_eq, mR_sR_ne, mI_sR, mR_sI, mK_sI, mN_sI, mn_sI, mJ_sI, mK_sR, mN_sR, mn_sR, mJ_sR, mI_wI, mR_wI, mK_wI, mN_wI, mn_wI, mJ_wI, bnd_of, bndX_r, bndX_l, ap_of, if_true, if_false, if_pos, if_neg, ite_true, ite_false, not_true_eq_false, not_false_eq_true, Nat.reduceAdd, Nat.reduceMul, Nat.reduceEqDiff, Int.reduceToNat, Int.reduceNeg, f_X2_fits_3, f_X2_fits_41, f_X2_fits_58, f_X2_fits_77, anyB, hL, hs, hvl, hv, ite10, ih]
        simp only [pickP, decide_eq_true_eq]
        (first | done | with_reducible rfl | ((repeat' split) <;> (first | with_reducible rfl | (exfalso; omega) | grind)))
  have h := H (e - s) s FUEL (by omega) (by unfold FUEL; omega)
  unfold f_X2_fits
  exact h
theorem X2_pageCount (hL : ColLay M b) (hC : CC M b fu A) (hl : l < 8) (size : Int) (h0 : 1 ≤ size) (h120 : size ≤ 120) : f_X2_pageCount (b + 4 * l) (i32 size) M = some (i32 (pgF (A.rp l) size (A.sz l) 0 0 0), M) := by
  have hb := fun e x => @X2_behind M b l fu A hL hC hl e x
  obtain ⟨hok, hs, hr, -⟩ := hC
  have hz := hok.2.2.2.1 l
  have H : ∀ (k j n : Nat) (p r : Int), j + k = A.sz l → k < n → 0 ≤ p → p ≤ j → 0 ≤ r → r ≤ 120 → 
      f_X2_pageCount_7 n (b + 4 * l) (i32 size) (i32 p) (i32 r) (i32 j) M = some (i32 (pgF (A.rp l) size k j p r), M) := by
    intro k
    induction k with
    | zero =>
      intro j n p r hj hn q0 q1 q2 q3
      obtain ⟨n, rfl⟩ : ∃ m, n = m + 1 := ⟨n - 1, by omega⟩
      have h1 := hok.1 l j
      simp (disch := omega) only [add_i0, cast_add1, cast_sub1, toNat120, i32_lit, i32_neg, i32_add, i32_sub, i32_mul, i32_nat, i32_le, i32_lt, i32_eq, inB_i, Int.toNat_natCast, mI_sI_eq, mI_sI_ne, mR_sR_eq, mR_sR_ne, mI_sR, mR_sI, mK_sI, mN_sI, mn_sI, mJ_sI, mK_sR, mN_sR, mn_sR, mJ_sR, mI_wI, mR_wI, mK_wI, mN_wI, mn_wI, mJ_wI, bnd_of, bndX_r, bndX_l, ap_of, if_true, if_false, if_pos, if_neg, ite_true, ite_false, not_true_eq_false, not_false_eq_true, Nat.reduceAdd, Nat.reduceMul, Nat.reduceEqDiff, Int.reduceToNat, Int.reduceNeg, f_X2_pageCount_7, f_X2_pageCount_57, f_X2_pageCount_62, pgF, hL, hs, hr]
      (first | done | with_reducible rfl | ((repeat' split) <;> (first | with_reducible rfl | (exfalso; omega) | grind)))
    | succ k ih =>
      intro j n p r hj hn q0 q1 q2 q3
      obtain ⟨n, rfl⟩ : ∃ m, n = m + 1 := ⟨n - 1, by omega⟩
      have h1 := hok.1 l j
      have hb1 := hb j 0 (by omega) (by omega) (by omega) (by omega)
      rw [show ((j : Int) + 1).toNat = j + 1 by omega, show A.sz l - (j + 1) = k by omega] at hb1
      have hbl := behF_le (A.rp l) 0 k (j + 1)
      simp (disch := omega) only [add_i0, cast_add1, cast_sub1, toNat120, i32_lit, i32_neg, i32_add, i32_sub, i32_mul, i32_nat, i32_le, i32_lt, i32_eq, inB_i, Int.toNat_natCast, mI_sI_eq, mI_sI_ne, mR_sR_eq, mR_sR_ne, mI_sR, mR_sI, mK_sI, mN_sI, mn_sI, mJ_sI, mK_sR, mN_sR, mn_sR, mJ_sR, mI_wI, mR_wI, mK_wI, mN_wI, mn_wI, mJ_wI, bnd_of, bndX_r, bndX_l, ap_of, if_true, if_false, if_pos, if_neg, ite_true, ite_false, not_true_eq_false, not_false_eq_true, Nat.reduceAdd, Nat.reduceMul, Nat.reduceEqDiff, Int.reduceToNat, Int.reduceNeg, f_X2_pageCount_7, f_X2_pageCount_57, f_X2_pageCount_62, pgF, hL, hs, hr, hb1]
      by_cases c1 : A.rp l j = 0
      · rw [if_pos c1, if_pos c1]
        by_cases c2 : (behF (A.rp l) 0 k (j + 1) : Int) - j ≤ size
        · rw [if_pos c2, if_pos c2]
          by_cases c3 : (behF (A.rp l) 0 k (j + 1) : Int) - j ≤ r
          · rw [if_pos c3, if_pos c3, ih] <;> omega
          · rw [if_neg c3, if_neg c3, ih] <;> omega
        · rw [if_neg c2, if_neg c2]
      · rw [if_neg c1, if_neg c1, ih] <;> omega
  have h := H (A.sz l) 0 FUEL 0 0 (by omega) (by unfold FUEL; omega) (by omega) (by omega) (by omega) (by omega)
  simp only [f_X2_pageCount, i32_lit, i32_neg]
  exact h
theorem X2_folded (hL : ColLay M b) (hC : CC M b fu A) (hl : l < 8) (h : Int) (h0 : 0 ≤ h) (h7 : h ≤ 7) : f_X2_folded (b + 4 * l) (i32 h) M = some (if h = 0 then lp (fun j s => if A.df l j = fu l then s + i32 1 else s) (A.sz l) 0 (i32 0) else if h = 1 then lp (fun j s => if A.df l j = fu l then s + i32 (A.vl l j) else s) (A.sz l) 0 (i32 0) else if h = 2 then i32 (lp (fun j s => if A.df l j = fu l ∧ (s = -1 ∨ A.vl l j < s) then A.vl l j else s) (A.sz l) 0 (-1)) else if h = 3 then i32 (lp (fun j s => if A.df l j = fu l ∧ s < A.vl l j then A.vl l j else s) (A.sz l) 0 (-1)) else if h = 4 then lp (fun e s => if A.df l e = fu l ∧ ¬ anyB (fun i => decide (A.df l i = fu l ∧ A.vl l i = A.vl l e)) e 0 = true then s + i32 1 else s) (A.sz l) 0 (i32 0) else if h = 5 then i32 (A.sz l) - lp (fun j s => if A.df l j = fu l then s + i32 1 else s) (A.sz l) 0 (i32 0) else rollS A fu l (decide (h = 6)) (A.sz l) 0 (i32 0), M) := by
  have e0 := X2_valueCount hL hC hl
  have e1 := X2_valueSum hL hC hl
  have e2 := X2_least hL hC hl
  have e3 := X2_greatest hL hC hl
  have e4 := X2_unlikeCount hL hC hl
  have e6 := X2_rolled hL hC hl 1 (by omega) (by omega)
  have e7 := X2_rolled hL hC hl 0 (by omega) (by omega)
  obtain ⟨hok, hs, -⟩ := hC
  have hc : h = 0 ∨ h = 1 ∨ h = 2 ∨ h = 3 ∨ h = 4 ∨ h = 5 ∨ h = 6 ∨ h = 7 := by omega
  rcases hc with rfl | rfl | rfl | rfl | rfl | rfl | rfl | rfl <;> simp (disch := omega) only [add_i0, cast_add1, cast_sub1, toNat120, i32_lit, i32_neg, i32_add, i32_sub, i32_mul, i32_nat, i32_le, i32_lt, i32_eq, inB_i, Int.toNat_natCast, mI_sI_eq, mI_sI_ne, mR_sR_eq, mR_sR_ne, mI_sR, mR_sI, mK_sI, mN_sI, mn_sI, mJ_sI, mK_sR, mN_sR, mn_sR, mJ_sR, mI_wI, mR_wI, mK_wI, mN_wI, mn_wI, mJ_wI, bnd_of, bndX_r, bndX_l, ap_of, if_true, if_false, if_pos, if_neg, ite_true, ite_false, not_true_eq_false, not_false_eq_true, Nat.reduceAdd, Nat.reduceMul, Nat.reduceEqDiff, Int.reduceToNat, Int.reduceNeg, f_X2_folded, f_X2_folded_87, hL, hs, e0, e1, e2, e3, e4, e6, e7] <;> rfl
end
