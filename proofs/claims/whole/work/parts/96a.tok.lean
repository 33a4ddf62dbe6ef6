/-! Texts: their tokens, on both sides -/
def skF (p : Nat → Bool) : Nat → Nat → Nat
  | 0, j => j
  | k + 1, j => if p j = true then skF p k (j + 1) else j
theorem skF_le (p : Nat → Bool) : ∀ (k j : Nat), j ≤ skF p k j ∧ skF p k j ≤ j + k := by
  intro k
  induction k with
  | zero => intro j; simp [skF]
  | succ k ih =>
    intro j
    have := ih (j + 1)
    unfold skF
    split <;> omega
theorem skF_in (p : Nat → Bool) : ∀ (k j i : Nat), j ≤ i → i < skF p k j → p i = true := by
  intro k
  induction k with
  | zero => intro j i h1 h2; simp only [skF] at h2; omega
  | succ k ih =>
    intro j i h1 h2
    unfold skF at h2
    by_cases c : p j = true
    · rw [if_pos c] at h2
      by_cases e : i = j
      · subst e; exact c
      · exact ih (j + 1) i (by omega) h2
    · rw [if_neg c] at h2; omega
def bkT (tb : Nat → Int) (i : Nat) : Bool := decide (tb i = 32 ∨ tb i = 10)
def ltT (tb : Nat → Int) (i : Nat) : Bool := decide (97 ≤ tb i ∧ tb i ≤ 122)
def dgT (tb : Nat → Int) (i : Nat) : Bool := decide (48 ≤ tb i ∧ tb i ≤ 57)
def sgT (tb : Nat → Int) (i : Nat) : Bool := decide (tb i = 59 ∨ tb i = 123 ∨ tb i = 125 ∨ tb i = 40 ∨ tb i = 41 ∨ tb i = 91 ∨ tb i = 93 ∨ tb i = 45)
/-- the token behind e: where it begins, what it is (0 the end, 1 a word, 2 a number, 3 none, else the sign), where it ends -/
def tkB (tb : Nat → Int) (n e : Nat) : Nat := skF (bkT tb) (n - e) e
def tkK (tb : Nat → Int) (n e : Nat) : Int := if n ≤ tkB tb n e then 0 else if ltT tb (tkB tb n e) = true then 1 else if dgT tb (tkB tb n e) = true then 2 else if sgT tb (tkB tb n e) = true then tb (tkB tb n e) else 3
def tkE (tb : Nat → Int) (n e : Nat) : Nat := if n ≤ tkB tb n e then tkB tb n e else if ltT tb (tkB tb n e) = true then skF (ltT tb) (n - (tkB tb n e + 1)) (tkB tb n e + 1) else if dgT tb (tkB tb n e) = true then skF (dgT tb) (n - (tkB tb n e + 1)) (tkB tb n e + 1) else tkB tb n e + 1
def rkK (tb : Nat → Int) (n e : Nat) : Int := if n ≤ tkB tb n e then 0 else if ltT tb (tkB tb n e) = true then 1 else if dgT tb (tkB tb n e) = true then 2 else if sgT tb (tkB tb n e) = true then 3 else 4
theorem tk_b (tb : Nat → Int) {n e : Nat} (h : e ≤ n) : e ≤ tkB tb n e ∧ tkB tb n e ≤ n ∧ tkB tb n e ≤ tkE tb n e ∧ tkE tb n e ≤ n ∧ (tkB tb n e < n → tkB tb n e < tkE tb n e) := by
  have h1 := skF_le (bkT tb) (n - e) e
  have h2 : e ≤ tkB tb n e ∧ tkB tb n e ≤ n := by unfold tkB; omega
  have h3 := skF_le (ltT tb) (n - (tkB tb n e + 1)) (tkB tb n e + 1)
  have h4 := skF_le (dgT tb) (n - (tkB tb n e + 1)) (tkB tb n e + 1)
  unfold tkE
  repeat' split
  all_goals omega
theorem tkK_b (tb : Nat → Int) (hb : ∀ i, 0 ≤ tb i ∧ tb i ≤ 255) (n e : Nat) : 0 ≤ tkK tb n e ∧ tkK tb n e ≤ 255 ∧ (tkK tb n e = 0 ↔ n ≤ tkB tb n e) ∧ 0 ≤ rkK tb n e ∧ rkK tb n e ≤ 4 ∧ (rkK tb n e = 0 ↔ n ≤ tkB tb n e) ∧ (tkK tb n e = 1 ↔ rkK tb n e = 1) ∧ (tkK tb n e = 2 ↔ rkK tb n e = 2) ∧ (rkK tb n e = 3 → tkK tb n e = tb (tkB tb n e)) ∧ (40 ≤ tkK tb n e ↔ rkK tb n e = 3) ∧ (40 ≤ tkK tb n e ∨ tkK tb n e ≤ 3) := by
  have hv := hb (tkB tb n e)
  by_cases c1 : n ≤ tkB tb n e
  · have h1 : tkK tb n e = 0 := by unfold tkK; rw [if_pos c1]
    have h2 : rkK tb n e = 0 := by unfold rkK; rw [if_pos c1]
    rw [h1, h2]
    omega
  · by_cases c2 : ltT tb (tkB tb n e) = true
    · have h1 : tkK tb n e = 1 := by unfold tkK; rw [if_neg c1, if_pos c2]
      have h2 : rkK tb n e = 1 := by unfold rkK; rw [if_neg c1, if_pos c2]
      rw [h1, h2]
      omega
    · by_cases c3 : dgT tb (tkB tb n e) = true
      · have h1 : tkK tb n e = 2 := by unfold tkK; rw [if_neg c1, if_neg c2, if_pos c3]
        have h2 : rkK tb n e = 2 := by unfold rkK; rw [if_neg c1, if_neg c2, if_pos c3]
        rw [h1, h2]
        omega
      · by_cases c4 : sgT tb (tkB tb n e) = true
        · have h1 : tkK tb n e = tb (tkB tb n e) := by unfold tkK; rw [if_neg c1, if_neg c2, if_neg c3, if_pos c4]
          have h2 : rkK tb n e = 3 := by unfold rkK; rw [if_neg c1, if_neg c2, if_neg c3, if_pos c4]
          have c5 := of_decide_eq_true c4
          have c6 : 40 ≤ tb (tkB tb n e) := by omega
          clear c5
          rw [h1, h2]
          omega
        · have h1 : tkK tb n e = 3 := by unfold tkK; rw [if_neg c1, if_neg c2, if_neg c3, if_neg c4]
          have h2 : rkK tb n e = 4 := by unfold rkK; rw [if_neg c1, if_neg c2, if_neg c3, if_neg c4]
          rw [h1, h2]
          omega
/-- a number, read; and with the reference's bound -/
def nmF (tb : Nat → Int) : Nat → Nat → Int → Int
  | 0, _, a => a
  | k + 1, j, a => nmF tb k (j + 1) (a * 10 + tb j - 48)
def rnF (tb : Nat → Int) : Nat → Nat → Int → Int
  | 0, _, a => a
  | k + 1, j, a => rnF tb k (j + 1) (if 10 * a + tb j - 48 < 100000 then 10 * a + tb j - 48 else 100000)
theorem nm_rn (tb : Nat → Int) {k j : Nat} (hk : k ≤ 3) (hd : ∀ i, j ≤ i → i < j + k → dgT tb i = true) : rnF tb k j 0 = nmF tb k j 0 ∧ 0 ≤ nmF tb k j 0 ∧ nmF tb k j 0 ≤ 999 := by
  have d := fun i h1 h2 => of_decide_eq_true (hd i h1 h2)
  have hc : k = 0 ∨ k = 1 ∨ k = 2 ∨ k = 3 := by omega
  rcases hc with rfl | rfl | rfl | rfl
  · simp [rnF, nmF]
  · have d0 := d j (by omega) (by omega)
    simp only [rnF, nmF]
    split <;> omega
  · have d0 := d j (by omega) (by omega)
    have d1 := d (j + 1) (by omega) (by omega)
    simp only [rnF, nmF]
    repeat' split
    all_goals omega
  · have d0 := d j (by omega) (by omega)
    have d1 := d (j + 1) (by omega) (by omega)
    have d2 := d (j + 1 + 1) (by omega) (by omega)
    simp only [rnF, nmF]
    repeat' split
    all_goals omega
/-- the text: n bytes -/
def TXc (M : Mem) (tb : Nat → Int) (n : Nat) : Prop := mI M 2 2 = i32 n ∧ (∀ i, i < n → mI M 3 i = i32 (tb i)) ∧ n ≤ 700 ∧ ∀ i, 0 ≤ tb i ∧ tb i ≤ 255
def TXr (M : Mem) (tb : Nat → Int) (n : Nat) : Prop := mI M 134 7 = i32 n ∧ (∀ i, i < n → mI M 137 i = i32 (tb i)) ∧ n ≤ 700 ∧ ∀ i, 0 ≤ tb i ∧ tb i ≤ 255
/-- the token behind e is read -/
def CTk (M : Mem) (tb : Nat → Int) (n e : Nat) : Prop := mI M 2 3 = i32 (tkK tb n e) ∧ mI M 2 4 = i32 (tkB tb n e) ∧ mI M 2 5 = i32 (tkE tb n e)
def RTk (M : Mem) (tb : Nat → Int) (n e : Nat) : Prop := mI M 134 8 = i32 (rkK tb n e) ∧ mI M 134 10 = i32 (tkB tb n e) ∧ mI M 134 11 = i32 (tkE tb n e) ∧ mI M 134 6 = i32 (tkE tb n e) ∧ (tkK tb n e = 2 → mI M 134 9 = i32 (rnF tb (tkE tb n e - tkB tb n e) (tkB tb n e) 0))
def tkC (a j : Nat) : Prop := a = 2 ∧ 3 ≤ j ∧ j ≤ 5
def tkR (a j : Nat) : Prop := a = 134 ∧ 6 ≤ j ∧ j ≤ 11 ∧ j ≠ 7
theorem tkC_scr : ∀ a j, tkC a j → ScI a j := fun a j q => by rw [q.1]; exact sc_2 (by have := q.2; omega)
theorem tkR_scr : ∀ a j, tkR a j → ScI a j := fun a j q => by rw [q.1]; exact sc_134 (by have := q.2; omega)
section
variable {M : Mem} {tb : Nat → Int} {n e : Nat}
theorem TXc.chg {M M' : Mem} {P : Nat → Nat → Prop} (h : TXc M tb n) (g : Chg P M M') (h2 : ¬ P 2 2) (h3 : ∀ i, ¬ P 3 i) : TXc M' tb n := ⟨by rw [g.i h2]; exact h.1, fun i hi => by rw [g.i (h3 i)]; exact h.2.1 i hi, h.2.2⟩
theorem TXr.chg {M M' : Mem} {P : Nat → Nat → Prop} (h : TXr M tb n) (g : Chg P M M') (h2 : ¬ P 134 7) (h3 : ∀ i, ¬ P 137 i) : TXr M' tb n := ⟨by rw [g.i h2]; exact h.1, fun i hi => by rw [g.i (h3 i)]; exact h.2.1 i hi, h.2.2⟩
theorem X9_isLetter (M : Mem) (c : Int) (h1 : -1 ≤ c) (h2 : c ≤ 255) : f_X9_isLetter (i32 c) M = some (if 97 ≤ c ∧ c ≤ 122 then i32 1 else i32 0, M) := by
  simp (disch := omega) only [↓reduceIte, add_i0, cast_add1, cast_sub1, toNat120, i32_lit, i32_neg, i32_add, i32_sub, i32_mul, i32_nat, i32_le, i32_lt, i32_eq, inB_i, Int.toNat_natCast, mI_sI_eq, mI_sI_ne, mR_sR_eq, mR_sR_ne, mI_sR, mR_sI, mK_sI, mN_sI, mn_sI, mJ_sI, mK_sR, mN_sR, mn_sR, mJ_sR, mI_wI, mR_wI, mK_wI, mN_wI, mn_wI, mJ_wI, ↓bnd_of, ↓bndX_r, ↓bndX_l, ↓ap_nr, bnd_of, bndX_r, bndX_l, if_true, if_false, ite_true, ite_false, not_true_eq_false, not_false_eq_true, Nat.reduceAdd, Nat.reduceMul, Nat.reduceEqDiff, Int.reduceToNat, Int.reduceNeg, Ilt_t, Ilt_f, Ile_t, Ile_f, Ieq_t, Ieq_f, Nlt_t, Nlt_f, Nle_t, Nle_f, Neq_t, Neq_f, or_true, true_or, or_false, false_or, and_true, true_and, and_false, false_and, ne_eq, or_self, and_self, decide_true, decide_false, Bool.false_eq_true, f_X9_isLetter]
  (first | done | with_reducible rfl | ((repeat' split) <;> (first | with_reducible rfl | (exfalso; omega) | skip)))
theorem X9_isDigit (M : Mem) (c : Int) (h1 : -1 ≤ c) (h2 : c ≤ 255) : f_X9_isDigit (i32 c) M = some (if 48 ≤ c ∧ c ≤ 57 then i32 1 else i32 0, M) := by
  simp (disch := omega) only [↓reduceIte, add_i0, cast_add1, cast_sub1, toNat120, i32_lit, i32_neg, i32_add, i32_sub, i32_mul, i32_nat, i32_le, i32_lt, i32_eq, inB_i, Int.toNat_natCast, mI_sI_eq, mI_sI_ne, mR_sR_eq, mR_sR_ne, mI_sR, mR_sI, mK_sI, mN_sI, mn_sI, mJ_sI, mK_sR, mN_sR, mn_sR, mJ_sR, mI_wI, mR_wI, mK_wI, mN_wI, mn_wI, mJ_wI, ↓bnd_of, ↓bndX_r, ↓bndX_l, ↓ap_nr, bnd_of, bndX_r, bndX_l, if_true, if_false, ite_true, ite_false, not_true_eq_false, not_false_eq_true, Nat.reduceAdd, Nat.reduceMul, Nat.reduceEqDiff, Int.reduceToNat, Int.reduceNeg, Ilt_t, Ilt_f, Ile_t, Ile_f, Ieq_t, Ieq_f, Nlt_t, Nlt_f, Nle_t, Nle_f, Neq_t, Neq_f, or_true, true_or, or_false, false_or, and_true, true_and, and_false, false_and, ne_eq, or_self, and_self, decide_true, decide_false, Bool.false_eq_true, f_X9_isDigit]
  (first | done | with_reducible rfl | ((repeat' split) <;> (first | with_reducible rfl | (exfalso; omega) | skip)))
theorem X12_isLetter (M : Mem) (c : Int) (h1 : -1 ≤ c) (h2 : c ≤ 255) : f_X12_isLetter (i32 c) M = some (if 97 ≤ c ∧ c ≤ 122 then i32 1 else i32 0, M) := by
  simp (disch := omega) only [↓reduceIte, add_i0, cast_add1, cast_sub1, toNat120, i32_lit, i32_neg, i32_add, i32_sub, i32_mul, i32_nat, i32_le, i32_lt, i32_eq, inB_i, Int.toNat_natCast, mI_sI_eq, mI_sI_ne, mR_sR_eq, mR_sR_ne, mI_sR, mR_sI, mK_sI, mN_sI, mn_sI, mJ_sI, mK_sR, mN_sR, mn_sR, mJ_sR, mI_wI, mR_wI, mK_wI, mN_wI, mn_wI, mJ_wI, ↓bnd_of, ↓bndX_r, ↓bndX_l, ↓ap_nr, bnd_of, bndX_r, bndX_l, if_true, if_false, ite_true, ite_false, not_true_eq_false, not_false_eq_true, Nat.reduceAdd, Nat.reduceMul, Nat.reduceEqDiff, Int.reduceToNat, Int.reduceNeg, Ilt_t, Ilt_f, Ile_t, Ile_f, Ieq_t, Ieq_f, Nlt_t, Nlt_f, Nle_t, Nle_f, Neq_t, Neq_f, or_true, true_or, or_false, false_or, and_true, true_and, and_false, false_and, ne_eq, or_self, and_self, decide_true, decide_false, Bool.false_eq_true, f_X12_isLetter]
  (first | done | with_reducible rfl | ((repeat' split) <;> (first | with_reducible rfl | (exfalso; omega) | skip)))
theorem X12_isDigit (M : Mem) (c : Int) (h1 : -1 ≤ c) (h2 : c ≤ 255) : f_X12_isDigit (i32 c) M = some (if 48 ≤ c ∧ c ≤ 57 then i32 1 else i32 0, M) := by
  simp (disch := omega) only [↓reduceIte, add_i0, cast_add1, cast_sub1, toNat120, i32_lit, i32_neg, i32_add, i32_sub, i32_mul, i32_nat, i32_le, i32_lt, i32_eq, inB_i, Int.toNat_natCast, mI_sI_eq, mI_sI_ne, mR_sR_eq, mR_sR_ne, mI_sR, mR_sI, mK_sI, mN_sI, mn_sI, mJ_sI, mK_sR, mN_sR, mn_sR, mJ_sR, mI_wI, mR_wI, mK_wI, mN_wI, mn_wI, mJ_wI, ↓bnd_of, ↓bndX_r, ↓bndX_l, ↓ap_nr, bnd_of, bndX_r, bndX_l, if_true, if_false, ite_true, ite_false, not_true_eq_false, not_false_eq_true, Nat.reduceAdd, Nat.reduceMul, Nat.reduceEqDiff, Int.reduceToNat, Int.reduceNeg, Ilt_t, Ilt_f, Ile_t, Ile_f, Ieq_t, Ieq_f, Nlt_t, Nlt_f, Nle_t, Nle_f, Neq_t, Neq_f, or_true, true_or, or_false, false_or, and_true, true_and, and_false, false_and, ne_eq, or_self, and_self, decide_true, decide_false, Bool.false_eq_true, f_X12_isDigit]
  (first | done | with_reducible rfl | ((repeat' split) <;> (first | with_reducible rfl | (exfalso; omega) | skip)))
theorem X9_isSign (M : Mem) (c : Int) (h1 : -1 ≤ c) (h2 : c ≤ 255) : f_X9_isSign (i32 c) M = some (if c = 59 ∨ c = 123 ∨ c = 125 ∨ c = 40 ∨ c = 41 ∨ c = 91 ∨ c = 93 ∨ c = 45 then i32 1 else i32 0, M) := by
  simp (disch := omega) only [↓reduceIte, add_i0, cast_add1, cast_sub1, toNat120, i32_lit, i32_neg, i32_add, i32_sub, i32_mul, i32_nat, i32_le, i32_lt, i32_eq, inB_i, Int.toNat_natCast, mI_sI_eq, mI_sI_ne, mR_sR_eq, mR_sR_ne, mI_sR, mR_sI, mK_sI, mN_sI, mn_sI, mJ_sI, mK_sR, mN_sR, mn_sR, mJ_sR, mI_wI, mR_wI, mK_wI, mN_wI, mn_wI, mJ_wI, ↓bnd_of, ↓bndX_r, ↓bndX_l, ↓ap_nr, bnd_of, bndX_r, bndX_l, if_true, if_false, ite_true, ite_false, not_true_eq_false, not_false_eq_true, Nat.reduceAdd, Nat.reduceMul, Nat.reduceEqDiff, Int.reduceToNat, Int.reduceNeg, Ilt_t, Ilt_f, Ile_t, Ile_f, Ieq_t, Ieq_f, Nlt_t, Nlt_f, Nle_t, Nle_f, Neq_t, Neq_f, or_true, true_or, or_false, false_or, and_true, true_and, and_false, false_and, ne_eq, or_self, and_self, decide_true, decide_false, Bool.false_eq_true, f_X9_isSign, f_X9_isSign_48]
  (first | done | with_reducible rfl | ((repeat' split) <;> (first | with_reducible rfl | (exfalso; omega) | skip)))
theorem X12_isMark (M : Mem) (c : Int) (h1 : -1 ≤ c) (h2 : c ≤ 255) : f_X12_isMark (i32 c) M = some (if c = 59 ∨ c = 123 ∨ c = 125 ∨ c = 40 ∨ c = 41 ∨ c = 91 ∨ c = 93 ∨ c = 45 then i32 1 else i32 0, M) := by
  simp (disch := omega) only [↓reduceIte, add_i0, cast_add1, cast_sub1, toNat120, i32_lit, i32_neg, i32_add, i32_sub, i32_mul, i32_nat, i32_le, i32_lt, i32_eq, inB_i, Int.toNat_natCast, mI_sI_eq, mI_sI_ne, mR_sR_eq, mR_sR_ne, mI_sR, mR_sI, mK_sI, mN_sI, mn_sI, mJ_sI, mK_sR, mN_sR, mn_sR, mJ_sR, mI_wI, mR_wI, mK_wI, mN_wI, mn_wI, mJ_wI, ↓bnd_of, ↓bndX_r, ↓bndX_l, ↓ap_nr, bnd_of, bndX_r, bndX_l, if_true, if_false, ite_true, ite_false, not_true_eq_false, not_false_eq_true, Nat.reduceAdd, Nat.reduceMul, Nat.reduceEqDiff, Int.reduceToNat, Int.reduceNeg, Ilt_t, Ilt_f, Ile_t, Ile_f, Ieq_t, Ieq_f, Nlt_t, Nlt_f, Nle_t, Nle_f, Neq_t, Neq_f, or_true, true_or, or_false, false_or, and_true, true_and, and_false, false_and, ne_eq, or_self, and_self, decide_true, decide_false, Bool.false_eq_true, f_X12_isMark, f_X12_isMark_48]
  (first | done | with_reducible rfl | ((repeat' split) <;> (first | with_reducible rfl | (exfalso; omega) | skip)))
theorem CLay.tkc {M M' : Mem} (h : CLay M) (g : Chg tkC M M') : CLay M' := h.scr (g.scr tkC_scr)
theorem TXc.tkc {M M' : Mem} (h : TXc M tb n) (g : Chg tkC M M') : TXc M' tb n := h.chg g (by unfold tkC; omega) (fun i => by unfold tkC; omega)
theorem X9_adv118 : ∀ (k j m : Nat) (M : Mem), j + k = n → k < m → CLay M → TXc M tb n → mI M 2 5 = i32 j → ∃ M', f_X9_advance_118 m 2 (i32 j) M = some ((), M') ∧ Chg (fun a i => a = 2 ∧ i = 5) M M' ∧ mI M' 2 5 = i32 (skF (ltT tb) k j) := by
  intro k
  induction k with
  | zero =>
    intro j m M hj hm hL hT h5
    obtain ⟨m, rfl⟩ : ∃ q, m = q + 1 := ⟨m - 1, by omega⟩
    obtain ⟨t1, t2, t3, t4⟩ := hT
    refine ⟨M, ?_, Chg.rf _ M, h5⟩
    simp (disch := omega) only [↓reduceIte, add_i0, cast_add1, cast_sub1, toNat120, i32_lit, i32_neg, i32_add, i32_sub, i32_mul, i32_nat, i32_le, i32_lt, i32_eq, inB_i, Int.toNat_natCast, mI_sI_eq, mI_sI_ne, mR_sR_eq, mR_sR_ne, mI_sR, mR_sI, mK_sI, mN_sI, mn_sI, mJ_sI, mK_sR, mN_sR, mn_sR, mJ_sR, mI_wI, mR_wI, mK_wI, mN_wI, mn_wI, mJ_wI, ↓bnd_of, ↓bndX_r, ↓bndX_l, ↓ap_nr, bnd_of, bndX_r, bndX_l, if_true, if_false, ite_true, ite_false, not_true_eq_false, not_false_eq_true, Nat.reduceAdd, Nat.reduceMul, Nat.reduceEqDiff, Int.reduceToNat, Int.reduceNeg, Ilt_t, Ilt_f, Ile_t, Ile_f, Ieq_t, Ieq_f, Nlt_t, Nlt_f, Nle_t, Nle_f, Neq_t, Neq_f, or_true, true_or, or_false, false_or, and_true, true_and, and_false, false_and, ne_eq, or_self, and_self, decide_true, decide_false, Bool.false_eq_true, f_X9_advance_118, f_X9_advance_151, hL.o, t1]
  | succ k ih =>
    intro j m M hj hm hL hT h5
    obtain ⟨m, rfl⟩ : ∃ q, m = q + 1 := ⟨m - 1, by omega⟩
    obtain ⟨t1, t2, t3, t4⟩ := id hT
    have b := t4 j
    have e := X9_isLetter M (tb j) (by omega) (by omega)
    unfold skF ltT
    by_cases c : 97 ≤ tb j ∧ tb j ≤ 122
    · rw [if_pos c] at e
      rw [if_pos (decide_eq_true c)]
      have g : Chg (fun a i => a = 2 ∧ i = 5) M (sI M 2 5 (i32 ((j + 1 : Nat) : Int))) := (Chg.rf _ M).sI ⟨rfl, rfl⟩
      obtain ⟨M', q1, q2, q3⟩ := ih (j + 1) m _ (by omega) (by omega) (hL.scr (g.scr (fun a i q => by rw [q.1]; exact sc_2 (by have := q.2; omega)))) (hT.chg g (by omega) (by omega)) mI_sI_eq
      refine ⟨M', ?_, g.tr q2, q3⟩
      rw [← q1]
      simp (disch := omega) only [↓reduceIte, add_i0, cast_add1, cast_sub1, toNat120, i32_lit, i32_neg, i32_add, i32_sub, i32_mul, i32_nat, i32_le, i32_lt, i32_eq, inB_i, Int.toNat_natCast, mI_sI_eq, mI_sI_ne, mR_sR_eq, mR_sR_ne, mI_sR, mR_sI, mK_sI, mN_sI, mn_sI, mJ_sI, mK_sR, mN_sR, mn_sR, mJ_sR, mI_wI, mR_wI, mK_wI, mN_wI, mn_wI, mJ_wI, ↓bnd_of, ↓bndX_r, ↓bndX_l, ↓ap_nr, bnd_of, bndX_r, bndX_l, if_true, if_false, ite_true, ite_false, not_true_eq_false, not_false_eq_true, Nat.reduceAdd, Nat.reduceMul, Nat.reduceEqDiff, Int.reduceToNat, Int.reduceNeg, Ilt_t, Ilt_f, Ile_t, Ile_f, Ieq_t, Ieq_f, Nlt_t, Nlt_f, Nle_t, Nle_f, Neq_t, Neq_f, or_true, true_or, or_false, false_or, and_true, true_and, and_false, false_and, ne_eq, or_self, and_self, decide_true, decide_false, Bool.false_eq_true, f_X9_advance_118, hL.o, t1, t2, ↓bx e]
    · rw [if_neg c] at e
      rw [if_neg (by rw [decide_eq_true_eq]; exact c)]
      refine ⟨M, ?_, Chg.rf _ M, h5⟩
      simp (disch := omega) only [↓reduceIte, add_i0, cast_add1, cast_sub1, toNat120, i32_lit, i32_neg, i32_add, i32_sub, i32_mul, i32_nat, i32_le, i32_lt, i32_eq, inB_i, Int.toNat_natCast, mI_sI_eq, mI_sI_ne, mR_sR_eq, mR_sR_ne, mI_sR, mR_sI, mK_sI, mN_sI, mn_sI, mJ_sI, mK_sR, mN_sR, mn_sR, mJ_sR, mI_wI, mR_wI, mK_wI, mN_wI, mn_wI, mJ_wI, ↓bnd_of, ↓bndX_r, ↓bndX_l, ↓ap_nr, bnd_of, bndX_r, bndX_l, if_true, if_false, ite_true, ite_false, not_true_eq_false, not_false_eq_true, Nat.reduceAdd, Nat.reduceMul, Nat.reduceEqDiff, Int.reduceToNat, Int.reduceNeg, Ilt_t, Ilt_f, Ile_t, Ile_f, Ieq_t, Ieq_f, Nlt_t, Nlt_f, Nle_t, Nle_f, Neq_t, Neq_f, or_true, true_or, or_false, false_or, and_true, true_and, and_false, false_and, ne_eq, or_self, and_self, decide_true, decide_false, Bool.false_eq_true, f_X9_advance_118, f_X9_advance_151, hL.o, t1, t2, ↓bx e]
theorem X9_adv171 : ∀ (k j m : Nat) (M : Mem), j + k = n → k < m → CLay M → TXc M tb n → mI M 2 5 = i32 j → ∃ M', f_X9_advance_171 m 2 (i32 j) M = some ((), M') ∧ Chg (fun a i => a = 2 ∧ i = 5) M M' ∧ mI M' 2 5 = i32 (skF (dgT tb) k j) := by
  intro k
  induction k with
  | zero =>
    intro j m M hj hm hL hT h5
    obtain ⟨m, rfl⟩ : ∃ q, m = q + 1 := ⟨m - 1, by omega⟩
    obtain ⟨t1, t2, t3, t4⟩ := hT
    refine ⟨M, ?_, Chg.rf _ M, h5⟩
    simp (disch := omega) only [↓reduceIte, add_i0, cast_add1, cast_sub1, toNat120, i32_lit, i32_neg, i32_add, i32_sub, i32_mul, i32_nat, i32_le, i32_lt, i32_eq, inB_i, Int.toNat_natCast, mI_sI_eq, mI_sI_ne, mR_sR_eq, mR_sR_ne, mI_sR, mR_sI, mK_sI, mN_sI, mn_sI, mJ_sI, mK_sR, mN_sR, mn_sR, mJ_sR, mI_wI, mR_wI, mK_wI, mN_wI, mn_wI, mJ_wI, ↓bnd_of, ↓bndX_r, ↓bndX_l, ↓ap_nr, bnd_of, bndX_r, bndX_l, if_true, if_false, ite_true, ite_false, not_true_eq_false, not_false_eq_true, Nat.reduceAdd, Nat.reduceMul, Nat.reduceEqDiff, Int.reduceToNat, Int.reduceNeg, Ilt_t, Ilt_f, Ile_t, Ile_f, Ieq_t, Ieq_f, Nlt_t, Nlt_f, Nle_t, Nle_f, Neq_t, Neq_f, or_true, true_or, or_false, false_or, and_true, true_and, and_false, false_and, ne_eq, or_self, and_self, decide_true, decide_false, Bool.false_eq_true, f_X9_advance_171, f_X9_advance_204, hL.o, t1]
  | succ k ih =>
    intro j m M hj hm hL hT h5
    obtain ⟨m, rfl⟩ : ∃ q, m = q + 1 := ⟨m - 1, by omega⟩
    obtain ⟨t1, t2, t3, t4⟩ := id hT
    have b := t4 j
    have e := X9_isDigit M (tb j) (by omega) (by omega)
    unfold skF dgT
    by_cases c : 48 ≤ tb j ∧ tb j ≤ 57
    · rw [if_pos c] at e
      rw [if_pos (decide_eq_true c)]
      have g : Chg (fun a i => a = 2 ∧ i = 5) M (sI M 2 5 (i32 ((j + 1 : Nat) : Int))) := (Chg.rf _ M).sI ⟨rfl, rfl⟩
      obtain ⟨M', q1, q2, q3⟩ := ih (j + 1) m _ (by omega) (by omega) (hL.scr (g.scr (fun a i q => by rw [q.1]; exact sc_2 (by have := q.2; omega)))) (hT.chg g (by omega) (by omega)) mI_sI_eq
      refine ⟨M', ?_, g.tr q2, q3⟩
      rw [← q1]
      simp (disch := omega) only [↓reduceIte, add_i0, cast_add1, cast_sub1, toNat120, i32_lit, i32_neg, i32_add, i32_sub, i32_mul, i32_nat, i32_le, i32_lt, i32_eq, inB_i, Int.toNat_natCast, mI_sI_eq, mI_sI_ne, mR_sR_eq, mR_sR_ne, mI_sR, mR_sI, mK_sI, mN_sI, mn_sI, mJ_sI, mK_sR, mN_sR, mn_sR, mJ_sR, mI_wI, mR_wI, mK_wI, mN_wI, mn_wI, mJ_wI, ↓bnd_of, ↓bndX_r, ↓bndX_l, ↓ap_nr, bnd_of, bndX_r, bndX_l, if_true, if_false, ite_true, ite_false, not_true_eq_false, not_false_eq_true, Nat.reduceAdd, Nat.reduceMul, Nat.reduceEqDiff, Int.reduceToNat, Int.reduceNeg, Ilt_t, Ilt_f, Ile_t, Ile_f, Ieq_t, Ieq_f, Nlt_t, Nlt_f, Nle_t, Nle_f, Neq_t, Neq_f, or_true, true_or, or_false, false_or, and_true, true_and, and_false, false_and, ne_eq, or_self, and_self, decide_true, decide_false, Bool.false_eq_true, f_X9_advance_171, hL.o, t1, t2, ↓bx e]
    · rw [if_neg c] at e
      rw [if_neg (by rw [decide_eq_true_eq]; exact c)]
      refine ⟨M, ?_, Chg.rf _ M, h5⟩
      simp (disch := omega) only [↓reduceIte, add_i0, cast_add1, cast_sub1, toNat120, i32_lit, i32_neg, i32_add, i32_sub, i32_mul, i32_nat, i32_le, i32_lt, i32_eq, inB_i, Int.toNat_natCast, mI_sI_eq, mI_sI_ne, mR_sR_eq, mR_sR_ne, mI_sR, mR_sI, mK_sI, mN_sI, mn_sI, mJ_sI, mK_sR, mN_sR, mn_sR, mJ_sR, mI_wI, mR_wI, mK_wI, mN_wI, mn_wI, mJ_wI, ↓bnd_of, ↓bndX_r, ↓bndX_l, ↓ap_nr, bnd_of, bndX_r, bndX_l, if_true, if_false, ite_true, ite_false, not_true_eq_false, not_false_eq_true, Nat.reduceAdd, Nat.reduceMul, Nat.reduceEqDiff, Int.reduceToNat, Int.reduceNeg, Ilt_t, Ilt_f, Ile_t, Ile_f, Ieq_t, Ieq_f, Nlt_t, Nlt_f, Nle_t, Nle_f, Neq_t, Neq_f, or_true, true_or, or_false, false_or, and_true, true_and, and_false, false_and, ne_eq, or_self, and_self, decide_true, decide_false, Bool.false_eq_true, f_X9_advance_171, f_X9_advance_204, hL.o, t1, t2, ↓bx e]
theorem X9_adv13 : ∀ (k j m : Nat) (M : Mem), j + k = n → k < m → CLay M → TXc M tb n → mI M 2 4 = i32 j → ∃ M', f_X9_advance_13 m 2 (i32 j) M = f_X9_advance_56 2 M' ∧ Chg tkC M M' ∧ mI M' 2 4 = i32 (skF (bkT tb) k j) := by
  intro k
  induction k with
  | zero =>
    intro j m M hj hm hL hT h4
    obtain ⟨m, rfl⟩ : ∃ q, m = q + 1 := ⟨m - 1, by omega⟩
    obtain ⟨t1, t2, t3, t4⟩ := hT
    refine ⟨M, ?_, Chg.rf _ M, h4⟩
    simp (disch := omega) only [↓reduceIte, add_i0, cast_add1, cast_sub1, toNat120, i32_lit, i32_neg, i32_add, i32_sub, i32_mul, i32_nat, i32_le, i32_lt, i32_eq, inB_i, Int.toNat_natCast, mI_sI_eq, mI_sI_ne, mR_sR_eq, mR_sR_ne, mI_sR, mR_sI, mK_sI, mN_sI, mn_sI, mJ_sI, mK_sR, mN_sR, mn_sR, mJ_sR, mI_wI, mR_wI, mK_wI, mN_wI, mn_wI, mJ_wI, ↓bnd_of, ↓bndX_r, ↓bndX_l, ↓ap_nr, bnd_of, bndX_r, bndX_l, if_true, if_false, ite_true, ite_false, not_true_eq_false, not_false_eq_true, Nat.reduceAdd, Nat.reduceMul, Nat.reduceEqDiff, Int.reduceToNat, Int.reduceNeg, Ilt_t, Ilt_f, Ile_t, Ile_f, Ieq_t, Ieq_f, Nlt_t, Nlt_f, Nle_t, Nle_f, Neq_t, Neq_f, or_true, true_or, or_false, false_or, and_true, true_and, and_false, false_and, ne_eq, or_self, and_self, decide_true, decide_false, Bool.false_eq_true, f_X9_advance_13, hL.o, t1]
  | succ k ih =>
    intro j m M hj hm hL hT h4
    obtain ⟨m, rfl⟩ : ∃ q, m = q + 1 := ⟨m - 1, by omega⟩
    obtain ⟨t1, t2, t3, t4⟩ := id hT
    have b := t4 j
    unfold skF bkT
    by_cases c : tb j = 32 ∨ tb j = 10
    · rw [if_pos (decide_eq_true c)]
      have g : Chg tkC M (sI M 2 4 (i32 ((j + 1 : Nat) : Int))) := (Chg.rf _ M).sI (by unfold tkC; omega)
      obtain ⟨M', q1, q2, q3⟩ := ih (j + 1) m _ (by omega) (by omega) (hL.tkc g) (hT.tkc g) mI_sI_eq
      refine ⟨M', ?_, g.tr q2, q3⟩
      rw [← q1]
      rcases c with c | c
      · simp (disch := omega) only [↓reduceIte, add_i0, cast_add1, cast_sub1, toNat120, i32_lit, i32_neg, i32_add, i32_sub, i32_mul, i32_nat, i32_le, i32_lt, i32_eq, inB_i, Int.toNat_natCast, mI_sI_eq, mI_sI_ne, mR_sR_eq, mR_sR_ne, mI_sR, mR_sI, mK_sI, mN_sI, mn_sI, mJ_sI, mK_sR, mN_sR, mn_sR, mJ_sR, mI_wI, mR_wI, mK_wI, mN_wI, mn_wI, mJ_wI, ↓bnd_of, ↓bndX_r, ↓bndX_l, ↓ap_nr, bnd_of, bndX_r, bndX_l, if_true, if_false, ite_true, ite_false, not_true_eq_false, not_false_eq_true, Nat.reduceAdd, Nat.reduceMul, Nat.reduceEqDiff, Int.reduceToNat, Int.reduceNeg, Ilt_t, Ilt_f, Ile_t, Ile_f, Ieq_t, Ieq_f, Nlt_t, Nlt_f, Nle_t, Nle_f, Neq_t, Neq_f, or_true, true_or, or_false, false_or, and_true, true_and, and_false, false_and, ne_eq, or_self, and_self, decide_true, decide_false, Bool.false_eq_true, f_X9_advance_13, f_X9_advance_43, hL.o, t1, t2, c]
      · simp (disch := omega) only [↓reduceIte, add_i0, cast_add1, cast_sub1, toNat120, i32_lit, i32_neg, i32_add, i32_sub, i32_mul, i32_nat, i32_le, i32_lt, i32_eq, inB_i, Int.toNat_natCast, mI_sI_eq, mI_sI_ne, mR_sR_eq, mR_sR_ne, mI_sR, mR_sI, mK_sI, mN_sI, mn_sI, mJ_sI, mK_sR, mN_sR, mn_sR, mJ_sR, mI_wI, mR_wI, mK_wI, mN_wI, mn_wI, mJ_wI, ↓bnd_of, ↓bndX_r, ↓bndX_l, ↓ap_nr, bnd_of, bndX_r, bndX_l, if_true, if_false, ite_true, ite_false, not_true_eq_false, not_false_eq_true, Nat.reduceAdd, Nat.reduceMul, Nat.reduceEqDiff, Int.reduceToNat, Int.reduceNeg, Ilt_t, Ilt_f, Ile_t, Ile_f, Ieq_t, Ieq_f, Nlt_t, Nlt_f, Nle_t, Nle_f, Neq_t, Neq_f, or_true, true_or, or_false, false_or, and_true, true_and, and_false, false_and, ne_eq, or_self, and_self, decide_true, decide_false, Bool.false_eq_true, f_X9_advance_13, f_X9_advance_43, hL.o, t1, t2, c]
    · rw [if_neg (by rw [decide_eq_true_eq]; exact c)]
      refine ⟨M, ?_, Chg.rf _ M, h4⟩
      simp (disch := omega) only [↓reduceIte, add_i0, cast_add1, cast_sub1, toNat120, i32_lit, i32_neg, i32_add, i32_sub, i32_mul, i32_nat, i32_le, i32_lt, i32_eq, inB_i, Int.toNat_natCast, mI_sI_eq, mI_sI_ne, mR_sR_eq, mR_sR_ne, mI_sR, mR_sI, mK_sI, mN_sI, mn_sI, mJ_sI, mK_sR, mN_sR, mn_sR, mJ_sR, mI_wI, mR_wI, mK_wI, mN_wI, mn_wI, mJ_wI, ↓bnd_of, ↓bndX_r, ↓bndX_l, ↓ap_nr, bnd_of, bndX_r, bndX_l, if_true, if_false, ite_true, ite_false, not_true_eq_false, not_false_eq_true, Nat.reduceAdd, Nat.reduceMul, Nat.reduceEqDiff, Int.reduceToNat, Int.reduceNeg, Ilt_t, Ilt_f, Ile_t, Ile_f, Ieq_t, Ieq_f, Nlt_t, Nlt_f, Nle_t, Nle_f, Neq_t, Neq_f, or_true, true_or, or_false, false_or, and_true, true_and, and_false, false_and, ne_eq, or_self, and_self, decide_true, decide_false, Bool.false_eq_true, f_X9_advance_13, hL.o, t1, t2]
theorem X9_advance (hL : CLay M) (hT : TXc M tb n) (h5 : mI M 2 5 = i32 e) (he : e ≤ n) : ∃ M', f_X9_advance 2 M = some ((), M') ∧ Chg tkC M M' ∧ CTk M' tb n e := by
  have hb := tk_b tb he
  have h700 := hT.2.2.1
  have g : Chg tkC M (sI M 2 4 (i32 e)) := (Chg.rf _ M).sI (by unfold tkC; omega)
  obtain ⟨M1, e1, g1, q1⟩ := X9_adv13 (n - e) e FUEL _ (by omega) (by unfold FUEL; omega) (hL.tkc g) (hT.tkc g) mI_sI_eq
  have q1 : mI M1 2 4 = i32 (tkB tb n e) := q1
  have hL1 := (hL.tkc g).tkc g1
  have hT1 := (hT.tkc g).tkc g1
  have e0 : f_X9_advance 2 M = f_X9_advance_56 2 M1 := by
    rw [← e1]
    simp (disch := omega) only [↓reduceIte, add_i0, cast_add1, cast_sub1, toNat120, i32_lit, i32_neg, i32_add, i32_sub, i32_mul, i32_nat, i32_le, i32_lt, i32_eq, inB_i, Int.toNat_natCast, mI_sI_eq, mI_sI_ne, mR_sR_eq, mR_sR_ne, mI_sR, mR_sI, mK_sI, mN_sI, mn_sI, mJ_sI, mK_sR, mN_sR, mn_sR, mJ_sR, mI_wI, mR_wI, mK_wI, mN_wI, mn_wI, mJ_wI, ↓bnd_of, ↓bndX_r, ↓bndX_l, ↓ap_nr, bnd_of, bndX_r, bndX_l, if_true, if_false, ite_true, ite_false, not_true_eq_false, not_false_eq_true, Nat.reduceAdd, Nat.reduceMul, Nat.reduceEqDiff, Int.reduceToNat, Int.reduceNeg, Ilt_t, Ilt_f, Ile_t, Ile_f, Ieq_t, Ieq_f, Nlt_t, Nlt_f, Nle_t, Nle_f, Neq_t, Neq_f, or_true, true_or, or_false, false_or, and_true, true_and, and_false, false_and, ne_eq, or_self, and_self, decide_true, decide_false, Bool.false_eq_true, f_X9_advance, hL.o, h5]
  rw [e0]
  obtain ⟨t1, t2, t3, t4⟩ := id hT1
  have b := t4 (tkB tb n e)
  have k2 : mK M1 2 = 10 := by simp only [hL1.o]
  have r0 : mR M1 2 0 = 3 := by simp only [hL1.o]
  have k3 : mK M1 3 = 21 := by simp only [hL1.o]
  have n3 : mN M1 3 = 700 := by simp only [hL1.o]
  have m4 : mI (sI M1 2 5 (i32 (tkB tb n e))) 2 4 = i32 (tkB tb n e) := by rw [mI_sI_ne (by omega)]; exact q1
  have m2 : mI (sI M1 2 5 (i32 (tkB tb n e))) 2 2 = i32 n := by rw [mI_sI_ne (by omega)]; exact t1
  have nb := nat_i (k := tkB tb n e) (by omega)
  unfold CTk tkK tkE
  by_cases c0 : n ≤ tkB tb n e
  · simp only [c0, if_true]
    refine ⟨sI (sI M1 2 5 (i32 (tkB tb n e))) 2 3 (0 : Int32), ?_, g.tr (g1.tr (((Chg.rf _ M1).sI (by unfold tkC; omega)).sI (by unfold tkC; omega))), mI_sI_eq, ?_, ?_⟩
    · unfold f_X9_advance_56
      rw [if_pos k2, q1, ap_of, if_pos (by exact k2), m4, m2, if_neg (by simp (disch := omega) only [↓reduceIte, add_i0, cast_add1, cast_sub1, toNat120, i32_lit, i32_neg, i32_add, i32_sub, i32_mul, i32_nat, i32_le, i32_lt, i32_eq, inB_i, Int.toNat_natCast, mI_sI_eq, mI_sI_ne, mR_sR_eq, mR_sR_ne, mI_sR, mR_sI, mK_sI, mN_sI, mn_sI, mJ_sI, mK_sR, mN_sR, mn_sR, mJ_sR, mI_wI, mR_wI, mK_wI, mN_wI, mn_wI, mJ_wI, ↓bnd_of, ↓bndX_r, ↓bndX_l, ↓ap_nr, bnd_of, bndX_r, bndX_l, if_true, if_false, ite_true, ite_false, not_true_eq_false, not_false_eq_true, Nat.reduceAdd, Nat.reduceMul, Nat.reduceEqDiff, Int.reduceToNat, Int.reduceNeg, Ilt_t, Ilt_f, Ile_t, Ile_f, Ieq_t, Ieq_f, Nlt_t, Nlt_f, Nle_t, Nle_f, Neq_t, Neq_f, or_true, true_or, or_false, false_or, and_true, true_and, and_false, false_and, ne_eq, or_self, and_self, decide_true, decide_false, Bool.false_eq_true]), ap_of]
    · rw [mI_sI_ne (by omega), mI_sI_ne (by omega)]; exact q1
    · rw [mI_sI_ne (by omega)]; exact mI_sI_eq
  · simp only [c0, if_false]
    have m3 : mI (sI M1 2 5 (i32 (tkB tb n e))) 3 (tkB tb n e) = i32 (tb (tkB tb n e)) := by rw [mI_sI_ne (by omega)]; exact t2 _ (by omega)
    have g2 : Chg tkC M1 (sI (sI M1 2 5 (i32 (tkB tb n e))) 2 5 (i32 ((tkB tb n e + 1 : Nat) : Int))) := ((Chg.rf _ M1).sI (by unfold tkC; omega)).sI (by unfold tkC; omega)
    have e2 := X9_isLetter (sI (sI M1 2 5 (i32 (tkB tb n e))) 2 5 (i32 ((tkB tb n e + 1 : Nat) : Int))) (tb (tkB tb n e)) (by omega) (by omega)
    have e3 := X9_isDigit (sI (sI M1 2 5 (i32 (tkB tb n e))) 2 5 (i32 ((tkB tb n e + 1 : Nat) : Int))) (tb (tkB tb n e)) (by omega) (by omega)
    have e4 := X9_isSign (sI (sI M1 2 5 (i32 (tkB tb n e))) 2 5 (i32 ((tkB tb n e + 1 : Nat) : Int))) (tb (tkB tb n e)) (by omega) (by omega)
    have in3 : inB (i32 (tkB tb n e)) 700 = true := by simp (disch := omega) only [↓reduceIte, add_i0, cast_add1, cast_sub1, toNat120, i32_lit, i32_neg, i32_add, i32_sub, i32_mul, i32_nat, i32_le, i32_lt, i32_eq, inB_i, Int.toNat_natCast, mI_sI_eq, mI_sI_ne, mR_sR_eq, mR_sR_ne, mI_sR, mR_sI, mK_sI, mN_sI, mn_sI, mJ_sI, mK_sR, mN_sR, mn_sR, mJ_sR, mI_wI, mR_wI, mK_wI, mN_wI, mn_wI, mJ_wI, ↓bnd_of, ↓bndX_r, ↓bndX_l, ↓ap_nr, bnd_of, bndX_r, bndX_l, if_true, if_false, ite_true, ite_false, not_true_eq_false, not_false_eq_true, Nat.reduceAdd, Nat.reduceMul, Nat.reduceEqDiff, Int.reduceToNat, Int.reduceNeg, Ilt_t, Ilt_f, Ile_t, Ile_f, Ieq_t, Ieq_f, Nlt_t, Nlt_f, Nle_t, Nle_f, Neq_t, Neq_f, or_true, true_or, or_false, false_or, and_true, true_and, and_false, false_and, ne_eq, or_self, and_self, decide_true, decide_false, Bool.false_eq_true]
    have lt1 : i32 (tkB tb n e) < i32 n := by rw [i32_lt (by omega) (by omega) (by omega) (by omega)]; omega
    by_cases c1 : 97 ≤ tb (tkB tb n e) ∧ tb (tkB tb n e) ≤ 122
    · have c1' : ltT tb (tkB tb n e) = true := decide_eq_true c1
      simp only [c1', if_true]
      rw [if_pos c1] at e2
      have g3 := g2.sI (a := 2) (k := 3) (v := (1 : Int32)) (by unfold tkC; omega)
      have m5 : mI (sI (sI (sI M1 2 5 (i32 (tkB tb n e))) 2 5 (i32 ((tkB tb n e + 1 : Nat) : Int))) 2 3 (1 : Int32)) 2 5 = i32 ((tkB tb n e + 1 : Nat) : Int) := by rw [mI_sI_ne (by omega)]; exact mI_sI_eq
      obtain ⟨M2, w2, w3, w4⟩ := X9_adv118 (n - (tkB tb n e + 1)) (tkB tb n e + 1) FUEL _ (by omega) (by unfold FUEL; omega) (hL1.tkc g3) (hT1.tkc g3) m5
      refine ⟨M2, ?_, g.tr (g1.tr (g3.tr (w3.mono (fun a i q => by unfold tkC; omega)))), ?_, ?_, w4⟩
      · rw [← w2]
        unfold f_X9_advance_56
        rw [if_pos k2, q1, ap_of, if_pos (by exact k2), m4, m2, if_pos lt1, mR_sI, r0, if_pos (by exact k3), mN_sI, n3, if_pos in3, ap_of, nb, m3, k_add1, bx e2, if_neg (by decide), if_pos (by exact k2), ap_of, if_pos (by exact k2), m5]
      · rw [w3.i (by omega)]; exact mI_sI_eq
      · rw [w3.i (by omega), mI_sI_ne (by omega), mI_sI_ne (by omega), mI_sI_ne (by omega)]; exact q1
    · have c1' : ¬ ltT tb (tkB tb n e) = true := fun q => c1 (of_decide_eq_true q)
      simp only [c1', if_false]
      rw [if_neg c1] at e2
      by_cases c2 : 48 ≤ tb (tkB tb n e) ∧ tb (tkB tb n e) ≤ 57
      · have c2' : dgT tb (tkB tb n e) = true := decide_eq_true c2
        simp only [c2', if_true]
        rw [if_pos c2] at e3
        have g3 := g2.sI (a := 2) (k := 3) (v := (2 : Int32)) (by unfold tkC; omega)
        have m5 : mI (sI (sI (sI M1 2 5 (i32 (tkB tb n e))) 2 5 (i32 ((tkB tb n e + 1 : Nat) : Int))) 2 3 (2 : Int32)) 2 5 = i32 ((tkB tb n e + 1 : Nat) : Int) := by rw [mI_sI_ne (by omega)]; exact mI_sI_eq
        obtain ⟨M2, w2, w3, w4⟩ := X9_adv171 (n - (tkB tb n e + 1)) (tkB tb n e + 1) FUEL _ (by omega) (by unfold FUEL; omega) (hL1.tkc g3) (hT1.tkc g3) m5
        refine ⟨M2, ?_, g.tr (g1.tr (g3.tr (w3.mono (fun a i q => by unfold tkC; omega)))), ?_, ?_, w4⟩
        · rw [← w2]
          unfold f_X9_advance_56
          rw [if_pos k2, q1, ap_of, if_pos (by exact k2), m4, m2, if_pos lt1, mR_sI, r0, if_pos (by exact k3), mN_sI, n3, if_pos in3, ap_of, nb, m3, k_add1, bx e2, if_pos (by rfl), bx e3, if_neg (by decide), if_pos (by exact k2), ap_of, if_pos (by exact k2), m5]
        · rw [w3.i (by omega)]; exact mI_sI_eq
        · rw [w3.i (by omega), mI_sI_ne (by omega), mI_sI_ne (by omega), mI_sI_ne (by omega)]; exact q1
      · have c2' : ¬ dgT tb (tkB tb n e) = true := fun q => c2 (of_decide_eq_true q)
        simp only [c2', if_false]
        rw [if_neg c2] at e3
        have tail : ∀ x : Int32, mI (sI (sI (sI M1 2 5 (i32 (tkB tb n e))) 2 5 (i32 ((tkB tb n e + 1 : Nat) : Int))) 2 3 x) 2 3 = x ∧ mI (sI (sI (sI M1 2 5 (i32 (tkB tb n e))) 2 5 (i32 ((tkB tb n e + 1 : Nat) : Int))) 2 3 x) 2 4 = i32 (tkB tb n e) ∧ mI (sI (sI (sI M1 2 5 (i32 (tkB tb n e))) 2 5 (i32 ((tkB tb n e + 1 : Nat) : Int))) 2 3 x) 2 5 = i32 ((tkB tb n e + 1 : Nat) : Int) := fun x => ⟨mI_sI_eq, by rw [mI_sI_ne (by omega), mI_sI_ne (by omega), mI_sI_ne (by omega)]; exact q1, by rw [mI_sI_ne (by omega)]; exact mI_sI_eq⟩
        by_cases c3 : tb (tkB tb n e) = 59 ∨ tb (tkB tb n e) = 123 ∨ tb (tkB tb n e) = 125 ∨ tb (tkB tb n e) = 40 ∨ tb (tkB tb n e) = 41 ∨ tb (tkB tb n e) = 91 ∨ tb (tkB tb n e) = 93 ∨ tb (tkB tb n e) = 45
        · have c3' : sgT tb (tkB tb n e) = true := decide_eq_true c3
          simp only [c3', if_true]
          rw [if_pos c3] at e4
          refine ⟨_, ?_, g.tr (g1.tr (g2.sI (a := 2) (k := 3) (v := i32 (tb (tkB tb n e))) (by unfold tkC; omega))), tail _⟩
          unfold f_X9_advance_56
          rw [if_pos k2, q1, ap_of, if_pos (by exact k2), m4, m2, if_pos lt1, mR_sI, r0, if_pos (by exact k3), mN_sI, n3, if_pos in3, ap_of, nb, m3, k_add1, bx e2, if_pos (by rfl), bx e3, if_pos (by rfl), bx e4, if_neg (by decide)]
          unfold f_X9_advance_220
          rw [if_pos (by exact k2), ap_of]
        · have c3' : ¬ sgT tb (tkB tb n e) = true := fun q => c3 (of_decide_eq_true q)
          simp only [c3', if_false]
          rw [if_neg c3] at e4
          refine ⟨_, ?_, g.tr (g1.tr (g2.sI (a := 2) (k := 3) (v := i32 3) (by unfold tkC; omega))), tail _⟩
          unfold f_X9_advance_56
          rw [if_pos k2, q1, ap_of, if_pos (by exact k2), m4, m2, if_pos lt1, mR_sI, r0, if_pos (by exact k3), mN_sI, n3, if_pos in3, ap_of, nb, m3, k_add1, bx e2, if_pos (by rfl), bx e3, if_pos (by rfl), bx e4, if_pos (by rfl)]
          unfold f_X9_advance_220
          rw [if_pos (by exact k2), ap_of]
          rfl
end
