/-! The stripes: rep, def, value, sizes, records -/
def St : Type := (Nat → Nat → Int) × (Nat → Nat → Int) × (Nat → Nat → Int) × (Nat → Nat) × Nat
def St.rp (A : St) : Nat → Nat → Int := A.1
def St.df (A : St) : Nat → Nat → Int := A.2.1
def St.vl (A : St) : Nat → Nat → Int := A.2.2.1
def St.sz (A : St) : Nat → Nat := A.2.2.2.1
def St.rc (A : St) : Nat := A.2.2.2.2
/-- the numbers' bounds -/
def St.ok (A : St) : Prop := (∀ l j, 0 ≤ A.rp l j ∧ A.rp l j ≤ 9) ∧ (∀ l j, 0 ≤ A.df l j ∧ A.df l j ≤ 9) ∧ (∀ l j, 0 ≤ A.vl l j ∧ A.vl l j ≤ 999) ∧ (∀ l, A.sz l ≤ 120) ∧ A.rc ≤ 30
/-- the class's columns at b (21: now, 56: kept) -/
def CC (M : Mem) (b : Nat) (A : St) : Prop := A.ok ∧ (∀ l, l < 8 → mI M (b + 4 * l) 3 = i32 (A.sz l)) ∧ (∀ l j, l < 8 → j < A.sz l → mI M (b + 4 * l + 1) j = i32 (A.rp l j)) ∧ (∀ l j, l < 8 → j < A.sz l → mI M (b + 4 * l + 2) j = i32 (A.df l j)) ∧ (∀ l j, l < 8 → j < A.sz l → mI M (b + 4 * l + 3) j = i32 (A.vl l j))
/-- where the record begins: the entry of rep 0 behind r others; NONE -/
def firstFrom (rp : Nat → Int) : Nat → Nat → Int → Int
  | 0, _, _ => -1
  | k + 1, j, r => if rp j = 0 then (if r = 0 then (j : Int) else firstFrom rp k (j + 1) (r - 1)) else firstFrom rp k (j + 1) r
theorem X2_firstOf_loop {M : Mem} {b l : Nat} {A : St} (hL : ColLay M b) (hC : CC M b A) (hl : l < 8) (r : Int) (h0 : 0 ≤ r) (h30 : r ≤ 2147483647) : ∀ (k j n : Nat) (a : Int), j + k = A.sz l → k < n → 0 ≤ a → a ≤ r → a ≤ j →
    f_X2_firstOf_4 n (b + 4 * l) (i32 r) (i32 a) (i32 j) M = some (i32 (firstFrom (A.rp l) k j (r - a)), M) := by
  obtain ⟨hok, hs, hr, -, -⟩ := hC
  have hz := hok.2.2.2.1 l
  intro k
  induction k with
  | zero =>
    intro j n a hj hn ha har haj
    obtain ⟨n, rfl⟩ : ∃ m, n = m + 1 := ⟨n - 1, by omega⟩
    unfold f_X2_firstOf_4 firstFrom
    simp (disch := first | omega | assumption | apply_assumption) only [i32_lit, i32_neg, i32_add, i32_sub, i32_mul, i32_nat, i32_le, i32_lt, i32_eq, inB_i, Int.toNat_natCast, Int.toNat_ofNat, mI_sI_eq, mI_sI_ne, mR_sR_eq, mR_sR_ne, mI_sR, mR_sI, mK_sI, mN_sI, mn_sI, mJ_sI, mK_sR, mN_sR, mn_sR, mJ_sR, mI_wI, mR_wI, mK_wI, mN_wI, mn_wI, mJ_wI, bnd_of, bndX_r, bndX_l, ap_of, if_true, if_false, if_pos, ite_true, ite_false, not_true_eq_false, not_false_eq_true, Nat.reduceAdd, Nat.reduceMul, Nat.reduceEqDiff, Int.reduceToNat, Int.reduceNeg, hL, hs, hr]
    rw [if_pos (by omega)]
  | succ k ih =>
    intro j n a hj hn ha har haj
    obtain ⟨n, rfl⟩ : ∃ m, n = m + 1 := ⟨n - 1, by omega⟩
    have h1 := hok.1 l j
    unfold f_X2_firstOf_4 firstFrom f_X2_firstOf_31
    simp (disch := first | omega | assumption | apply_assumption) only [i32_lit, i32_neg, i32_add, i32_sub, i32_mul, i32_nat, i32_le, i32_lt, i32_eq, inB_i, Int.toNat_natCast, Int.toNat_ofNat, mI_sI_eq, mI_sI_ne, mR_sR_eq, mR_sR_ne, mI_sR, mR_sI, mK_sI, mN_sI, mn_sI, mJ_sI, mK_sR, mN_sR, mn_sR, mJ_sR, mI_wI, mR_wI, mK_wI, mN_wI, mn_wI, mJ_wI, bnd_of, bndX_r, bndX_l, ap_of, if_true, if_false, if_pos, ite_true, ite_false, not_true_eq_false, not_false_eq_true, Nat.reduceAdd, Nat.reduceMul, Nat.reduceEqDiff, Int.reduceToNat, Int.reduceNeg, hL, hs, hr]
    rw [if_neg (by omega)]
    by_cases c1 : A.rp l j = 0
    · rw [if_pos c1, if_pos c1]
      by_cases c2 : a = r
      · rw [if_pos c2, if_pos (by omega)]
      · rw [if_neg c2, if_neg (by omega)]
        have := ih (j + 1) n (a + 1) (by omega) (by omega) (by omega) (by omega) (by omega)
        rw [show r - (a + 1) = r - a - 1 by omega] at this
        simpa using this
    · rw [if_neg c1, if_neg c1]
      have := ih (j + 1) n a (by omega) (by omega) (by omega) (by omega) (by omega)
      simpa using this
theorem X2_firstOf {M : Mem} {b l : Nat} {A : St} (hL : ColLay M b) (hC : CC M b A) (hl : l < 8) (r : Int) (h0 : 0 ≤ r) (h30 : r ≤ 2147483647) : f_X2_firstOf (b + 4 * l) (i32 r) M = some (i32 (firstFrom (A.rp l) (A.sz l) 0 r), M) := by
  have hz := hC.1.2.2.2.1 l
  have := X2_firstOf_loop hL hC hl r h0 h30 (A.sz l) 0 FUEL 0 (by omega) (by unfold FUEL; omega) (by omega) h0 (by omega)
  unfold f_X2_firstOf
  simpa [i32_lit] using this
