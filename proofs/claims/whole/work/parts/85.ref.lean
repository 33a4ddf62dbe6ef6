/-! The reference reads its stripes -/
section
variable {M : Mem} {S : Sc} {A : St}
theorem St.b (hok : A.ok) (l j : Nat) : 0 ≤ A.rp l j ∧ A.rp l j ≤ 9 ∧ 0 ≤ A.df l j ∧ A.df l j ≤ 9 ∧ 0 ≤ A.vl l j ∧ A.vl l j ≤ 999 ∧ A.sz l ≤ 120 ∧ A.rc ≤ 30 := ⟨(hok.1 l j).1, (hok.1 l j).2, (hok.2.1 l j).1, (hok.2.1 l j).2, (hok.2.2.1 l j).1, (hok.2.2.1 l j).2, hok.2.2.2.1 l, hok.2.2.2.2⟩
theorem X12_repAt (hL : RLay M) (hE : RE M A) {l j : Nat} (hl : l < 8) (hj : j < A.sz l) : f_X12_repAt 134 (i32 l) (i32 j) M = some (i32 (A.rp l j), M) := by
  obtain ⟨hok, e1, e2, -⟩ := hE
  have b := St.b hok l j
  simp (disch := omega) only [add_i0, cast_add1, cast_sub1, toNat120, i32_lit, i32_neg, i32_add, i32_sub, i32_mul, i32_nat, i32_le, i32_lt, i32_eq, inB_i, Int.toNat_natCast, mI_sI_eq, mI_sI_ne, mR_sR_eq, mR_sR_ne, mI_sR, mR_sI, mK_sI, mN_sI, mn_sI, mJ_sI, mK_sR, mN_sR, mn_sR, mJ_sR, mI_wI, mR_wI, mK_wI, mN_wI, mn_wI, mJ_wI, bnd_of, bndX_r, bndX_l, ap_of, if_true, if_false, if_pos, if_neg, ite_true, ite_false, not_true_eq_false, not_false_eq_true, Nat.reduceAdd, Nat.reduceMul, Nat.reduceEqDiff, Int.reduceToNat, Int.reduceNeg, f_X12_repAt, hL.o, e2, i32_div]
  congr 3
  omega
theorem X12_defAt (hL : RLay M) (hE : RE M A) {l j : Nat} (hl : l < 8) (hj : j < A.sz l) : f_X12_defAt 134 (i32 l) (i32 j) M = some (i32 (A.df l j), M) := by
  obtain ⟨hok, e1, e2, -⟩ := hE
  have b := St.b hok l j
  simp (disch := omega) only [add_i0, cast_add1, cast_sub1, toNat120, i32_lit, i32_neg, i32_add, i32_sub, i32_mul, i32_nat, i32_le, i32_lt, i32_eq, inB_i, Int.toNat_natCast, mI_sI_eq, mI_sI_ne, mR_sR_eq, mR_sR_ne, mI_sR, mR_sI, mK_sI, mN_sI, mn_sI, mJ_sI, mK_sR, mN_sR, mn_sR, mJ_sR, mI_wI, mR_wI, mK_wI, mN_wI, mn_wI, mJ_wI, bnd_of, bndX_r, bndX_l, ap_of, if_true, if_false, if_pos, if_neg, ite_true, ite_false, not_true_eq_false, not_false_eq_true, Nat.reduceAdd, Nat.reduceMul, Nat.reduceEqDiff, Int.reduceToNat, Int.reduceNeg, f_X12_defAt, hL.o, e2, i32_div]
  congr 3
  omega
theorem X12_valueAt (hL : RLay M) (hE : RE M A) {l j : Nat} (hl : l < 8) (hj : j < A.sz l) : f_X12_valueAt 134 (i32 l) (i32 j) M = some (i32 (A.vl l j), M) := by
  obtain ⟨hok, e1, e2, -⟩ := hE
  have b := St.b hok l j
  simp (disch := omega) only [add_i0, cast_add1, cast_sub1, toNat120, i32_lit, i32_neg, i32_add, i32_sub, i32_mul, i32_nat, i32_le, i32_lt, i32_eq, inB_i, Int.toNat_natCast, mI_sI_eq, mI_sI_ne, mR_sR_eq, mR_sR_ne, mI_sR, mR_sI, mK_sI, mN_sI, mn_sI, mJ_sI, mK_sR, mN_sR, mn_sR, mJ_sR, mI_wI, mR_wI, mK_wI, mN_wI, mn_wI, mJ_wI, bnd_of, bndX_r, bndX_l, ap_of, if_true, if_false, if_pos, if_neg, ite_true, ite_false, not_true_eq_false, not_false_eq_true, Nat.reduceAdd, Nat.reduceMul, Nat.reduceEqDiff, Int.reduceToNat, Int.reduceNeg, f_X12_valueAt, hL.o, e2, i32_div]
  congr 3
  omega
theorem Sc.fu_of {S : Sc} {l : Nat} (h : l < S.nl) : S.sd (S.fo l) = S.fu l := by
  unfold Sc.fu
  rw [if_pos h]
theorem Sc.fu_b (hS : S.ok) (l : Nat) : 0 ≤ S.fu l ∧ S.fu l ≤ 9 := by
  unfold Sc.fu
  have := Sc.sd_b hS (S.fo l)
  split <;> omega
theorem X12_hasValue (hL : RLay M) (hS : S.ok) (hR : RS0 M S) (hE : RE M A) {l j : Nat} (hl : l < S.nl) (hj : j < A.sz l) : f_X12_hasValue 134 (i32 l) (i32 j) M = some (if A.df l j = S.fu l then i32 1 else i32 0, M) := by
  have hfo := Sc.fo_lt hS hl
  have e := X12_defAt hL hE (l := l) (j := j) (by omega) hj
  obtain ⟨c0, c1, ck, cg, cl, cd, cr, -, -, -, cf⟩ := hR
  have b := St.b hE.1 l j
  have b2 := Sc.fu_b hS l
  simp (disch := omega) only [add_i0, cast_add1, cast_sub1, toNat120, i32_lit, i32_neg, i32_add, i32_sub, i32_mul, i32_nat, i32_le, i32_lt, i32_eq, inB_i, Int.toNat_natCast, mI_sI_eq, mI_sI_ne, mR_sR_eq, mR_sR_ne, mI_sR, mR_sI, mK_sI, mN_sI, mn_sI, mJ_sI, mK_sR, mN_sR, mn_sR, mJ_sR, mI_wI, mR_wI, mK_wI, mN_wI, mn_wI, mJ_wI, bnd_of, bndX_r, bndX_l, ap_of, if_true, if_false, if_pos, if_neg, ite_true, ite_false, not_true_eq_false, not_false_eq_true, Nat.reduceAdd, Nat.reduceMul, Nat.reduceEqDiff, Int.reduceToNat, Int.reduceNeg, f_X12_hasValue, hL.o, e, cf, cd, Sc.fu_of]
  (first | done | with_reducible rfl | ((repeat' split) <;> (first | with_reducible rfl | (exfalso; omega) | grind)))
theorem X12_firstsOf (hL : RLay M) (hE : RE M A) {l : Nat} (hl : l < 8) : f_X12_firstsOf 134 (i32 l) M = some (lp (fun j s => if A.rp l j = 0 then s + i32 1 else s) (A.sz l) 0 (i32 0), M) := by
  have hr := fun j => X12_repAt hL hE (l := l) (j := j) hl
  obtain ⟨hok, e1, -⟩ := hE
  have hz := hok.2.2.2.1 l
  have H : ∀ (k j n : Nat) (s : Int32), j + k = A.sz l → k < n → 
      f_X12_firstsOf_4 n 134 (i32 l) s (i32 j) M = some (lp (fun j s => if A.rp l j = 0 then s + i32 1 else s) k j s, M) := by
    intro k
    induction k with
    | zero =>
      intro j n s hj hn 
      obtain ⟨n, rfl⟩ : ∃ m, n = m + 1 := ⟨n - 1, by omega⟩
      have h1 := hok.1 l j
      simp (disch := omega) only [add_i0, cast_add1, cast_sub1, toNat120, i32_lit, i32_neg, i32_add, i32_sub, i32_mul, i32_nat, i32_le, i32_lt, i32_eq, inB_i, Int.toNat_natCast, mI_sI_eq, mI_sI_ne, mR_sR_eq, mR_sR_ne, mI_sR, mR_sI, mK_sI, mN_sI, mn_sI, mJ_sI, mK_sR, mN_sR, mn_sR, mJ_sR, mI_wI, mR_wI, mK_wI, mN_wI, mn_wI, mJ_wI, bnd_of, bndX_r, bndX_l, ap_of, if_true, if_false, if_pos, if_neg, ite_true, ite_false, not_true_eq_false, not_false_eq_true, Nat.reduceAdd, Nat.reduceMul, Nat.reduceEqDiff, Int.reduceToNat, Int.reduceNeg, f_X12_firstsOf_4, f_X12_firstsOf_29, lp, hL.o, e1, hr]
      (first | done | with_reducible rfl | ((repeat' split) <;> (first | with_reducible rfl | (exfalso; omega) | grind)))
    | succ k ih =>
      intro j n s hj hn 
      obtain ⟨n, rfl⟩ : ∃ m, n = m + 1 := ⟨n - 1, by omega⟩
      have h1 := hok.1 l j
      simp (disch := omega) only [add_i0, cast_add1, cast_sub1, toNat120, i32_lit, i32_neg, i32_add, i32_sub, i32_mul, i32_nat, i32_le, i32_lt, i32_eq, inB_i, Int.toNat_natCast, mI_sI_eq, mI_sI_ne, mR_sR_eq, mR_sR_ne, mI_sR, mR_sI, mK_sI, mN_sI, mn_sI, mJ_sI, mK_sR, mN_sR, mn_sR, mJ_sR, mI_wI, mR_wI, mK_wI, mN_wI, mn_wI, mJ_wI, bnd_of, bndX_r, bndX_l, ap_of, if_true, if_false, if_pos, if_neg, ite_true, ite_false, not_true_eq_false, not_false_eq_true, Nat.reduceAdd, Nat.reduceMul, Nat.reduceEqDiff, Int.reduceToNat, Int.reduceNeg, f_X12_firstsOf_4, f_X12_firstsOf_29, lp, hL.o, e1, hr, ih]
      (first | done | with_reducible rfl | ((repeat' split) <;> (first | with_reducible rfl | (exfalso; omega) | grind)))
  have h := H (A.sz l) 0 FUEL (i32 0) (by omega) (by unfold FUEL; omega) 
  simp only [f_X12_firstsOf, i32_lit, i32_neg]
  exact h
theorem X12_stepIn (hL : RLay M) (hE : RE M A) {l : Nat} (hl : l < 8) (e : Nat) (x : Int) (he : e ≤ A.sz l) (hx : 0 ≤ x) (hx9 : x ≤ 9) : f_X12_stepIn 134 (i32 l) (i32 e) (i32 x) M = some (i32 (behF (A.rp l) x (A.sz l - e) e), M) := by
  have hr := fun j => X12_repAt hL hE (l := l) (j := j) hl
  obtain ⟨hok, e1, -⟩ := hE
  have hz := hok.2.2.2.1 l
  have H : ∀ (k j n : Nat) , j + k = A.sz l → k < n → 
      f_X12_stepIn_3 n 134 (i32 l) (i32 x) (i32 j) M = some (i32 (behF (A.rp l) x k j), M) := by
    intro k
    induction k with
    | zero =>
      intro j n  hj hn 
      obtain ⟨n, rfl⟩ : ∃ m, n = m + 1 := ⟨n - 1, by omega⟩
      have h1 := hok.1 l j
      simp (disch := omega) only [add_i0, cast_add1, cast_sub1, toNat120, i32_lit, i32_neg, i32_add, i32_sub, i32_mul, i32_nat, i32_le, i32_lt, i32_eq, inB_i, Int.toNat_natCast, mI_sI_eq, mI_sI_ne, mR_sR_eq, mR_sR_ne, mI_sR, mR_sI, mK_sI, mN_sI, mn_sI, mJ_sI, mK_sR, mN_sR, mn_sR, mJ_sR, mI_wI, mR_wI, mK_wI, mN_wI, mn_wI, mJ_wI, bnd_of, bndX_r, bndX_l, ap_of, if_true, if_false, if_pos, if_neg, ite_true, ite_false, not_true_eq_false, not_false_eq_true, Nat.reduceAdd, Nat.reduceMul, Nat.reduceEqDiff, Int.reduceToNat, Int.reduceNeg, f_X12_stepIn_3, behF, hL.o, e1, hr]
      (first | done | with_reducible rfl | ((repeat' split) <;> (first | with_reducible rfl | (exfalso; omega) | grind)))
    | succ k ih =>
      intro j n  hj hn 
      obtain ⟨n, rfl⟩ : ∃ m, n = m + 1 := ⟨n - 1, by omega⟩
      have h1 := hok.1 l j
      simp (disch := omega) only [add_i0, cast_add1, cast_sub1, toNat120, i32_lit, i32_neg, i32_add, i32_sub, i32_mul, i32_nat, i32_le, i32_lt, i32_eq, inB_i, Int.toNat_natCast, mI_sI_eq, mI_sI_ne, mR_sR_eq, mR_sR_ne, mI_sR, mR_sI, mK_sI, mN_sI, mn_sI, mJ_sI, mK_sR, mN_sR, mn_sR, mJ_sR, mI_wI, mR_wI, mK_wI, mN_wI, mn_wI, mJ_wI, bnd_of, bndX_r, bndX_l, ap_of, if_true, if_false, if_pos, if_neg, ite_true, ite_false, not_true_eq_false, not_false_eq_true, Nat.reduceAdd, Nat.reduceMul, Nat.reduceEqDiff, Int.reduceToNat, Int.reduceNeg, f_X12_stepIn_3, behF, hL.o, e1, hr, ih]
      (first | done | with_reducible rfl | ((repeat' split) <;> (first | with_reducible rfl | (exfalso; omega) | grind)))
  have h := H (A.sz l - e) e FUEL (by omega) (by unfold FUEL; omega)
  unfold f_X12_stepIn
  exact h
theorem X12_behindOf (hL : RLay M) (hE : RE M A) {l : Nat} (hl : l < 8) (e : Nat) (he : e < A.sz l) : f_X12_behindOf 134 (i32 l) (i32 e) M = some (i32 (behF (A.rp l) 0 (A.sz l - (e + 1)) (e + 1)), M) := by
  have h := X12_stepIn hL hE hl (e + 1) 0 (by omega) (by omega) (by omega)
  have hz := hE.1.2.2.2.1 l
  simp (disch := omega) only [add_i0, cast_add1, cast_sub1, toNat120, i32_lit, i32_neg, i32_add, i32_sub, i32_mul, i32_nat, i32_le, i32_lt, i32_eq, inB_i, Int.toNat_natCast, mI_sI_eq, mI_sI_ne, mR_sR_eq, mR_sR_ne, mI_sR, mR_sI, mK_sI, mN_sI, mn_sI, mJ_sI, mK_sR, mN_sR, mn_sR, mJ_sR, mI_wI, mR_wI, mK_wI, mN_wI, mn_wI, mJ_wI, bnd_of, bndX_r, bndX_l, ap_of, if_true, if_false, if_pos, if_neg, ite_true, ite_false, not_true_eq_false, not_false_eq_true, Nat.reduceAdd, Nat.reduceMul, Nat.reduceEqDiff, Int.reduceToNat, Int.reduceNeg, f_X12_behindOf, hL.o, h]
theorem X12_runsRep (hL : RLay M) (hE : RE M A) {l : Nat} (hl : l < 8) : f_X12_runsOf 134 (i32 l) (i32 0) M = some (runs (A.rp l) (A.sz l) 0 (i32 0), M) := by
  have hr := fun j => X12_repAt hL hE (l := l) (j := j) hl
  obtain ⟨hok, e1, -⟩ := hE
  have hz := hok.2.2.2.1 l
  have H : ∀ (k j n : Nat) (s : Int32), j + k = A.sz l → k < n → 
      f_X12_runsOf_5 n 134 (i32 l) (i32 0) s (i32 j) M = some (runs (A.rp l) k j s, M) := by
    intro k
    induction k with
    | zero =>
      intro j n s hj hn 
      obtain ⟨n, rfl⟩ : ∃ m, n = m + 1 := ⟨n - 1, by omega⟩
      have h1 := hok.1 l j
      have h2 := hok.1 l (j - 1)
      simp (disch := omega) only [add_i0, cast_add1, cast_sub1, toNat120, i32_lit, i32_neg, i32_add, i32_sub, i32_mul, i32_nat, i32_le, i32_lt, i32_eq, inB_i, Int.toNat_natCast, mI_sI_eq, mI_sI_ne, mR_sR_eq, mR_sR_ne, mI_sR, mR_sI, mK_sI, mN_sI, mn_sI, mJ_sI, mK_sR, mN_sR, mn_sR, mJ_sR, mI_wI, mR_wI, mK_wI, mN_wI, mn_wI, mJ_wI, bnd_of, bndX_r, bndX_l, ap_of, if_true, if_false, if_pos, if_neg, ite_true, ite_false, not_true_eq_false, not_false_eq_true, Nat.reduceAdd, Nat.reduceMul, Nat.reduceEqDiff, Int.reduceToNat, Int.reduceNeg, f_X12_runsOf_5, f_X12_runsOf_66, f_X12_runsOf_70, f_X12_runsOf_71, f_X12_runsOf_84, runs, lp, hL.o, e1, hr]
      (first | done | with_reducible rfl | ((repeat' split) <;> (first | with_reducible rfl | (exfalso; omega) | grind)))
    | succ k ih =>
      intro j n s hj hn 
      obtain ⟨n, rfl⟩ : ∃ m, n = m + 1 := ⟨n - 1, by omega⟩
      have h1 := hok.1 l j
      have h2 := hok.1 l (j - 1)
      unfold runs at ih ⊢
      by_cases c : j = 0
      · subst c
        simp (disch := omega) only [add_i0, cast_add1, cast_sub1, toNat120, i32_lit, i32_neg, i32_add, i32_sub, i32_mul, i32_nat, i32_le, i32_lt, i32_eq, inB_i, Int.toNat_natCast, mI_sI_eq, mI_sI_ne, mR_sR_eq, mR_sR_ne, mI_sR, mR_sI, mK_sI, mN_sI, mn_sI, mJ_sI, mK_sR, mN_sR, mn_sR, mJ_sR, mI_wI, mR_wI, mK_wI, mN_wI, mn_wI, mJ_wI, bnd_of, bndX_r, bndX_l, ap_of, if_true, if_false, if_pos, if_neg, ite_true, ite_false, not_true_eq_false, not_false_eq_true, Nat.reduceAdd, Nat.reduceMul, Nat.reduceEqDiff, Int.reduceToNat, Int.reduceNeg, f_X12_runsOf_5, f_X12_runsOf_66, f_X12_runsOf_70, f_X12_runsOf_71, f_X12_runsOf_84, lp, hL.o, e1, hr, ih]
        (first | done | with_reducible rfl | ((repeat' split) <;> (first | with_reducible rfl | (exfalso; omega) | grind)))
      · simp (disch := omega) only [add_i0, cast_add1, cast_sub1, toNat120, i32_lit, i32_neg, i32_add, i32_sub, i32_mul, i32_nat, i32_le, i32_lt, i32_eq, inB_i, Int.toNat_natCast, mI_sI_eq, mI_sI_ne, mR_sR_eq, mR_sR_ne, mI_sR, mR_sI, mK_sI, mN_sI, mn_sI, mJ_sI, mK_sR, mN_sR, mn_sR, mJ_sR, mI_wI, mR_wI, mK_wI, mN_wI, mn_wI, mJ_wI, bnd_of, bndX_r, bndX_l, ap_of, if_true, if_false, if_pos, if_neg, ite_true, ite_false, not_true_eq_false, not_false_eq_true, Nat.reduceAdd, Nat.reduceMul, Nat.reduceEqDiff, Int.reduceToNat, Int.reduceNeg, f_X12_runsOf_5, f_X12_runsOf_66, f_X12_runsOf_70, f_X12_runsOf_71, f_X12_runsOf_84, lp, hL.o, e1, hr, ih]
        (first | done | with_reducible rfl | ((repeat' split) <;> (first | with_reducible rfl | (exfalso; omega) | grind)))
  have h := H (A.sz l) 0 FUEL (i32 0) (by omega) (by unfold FUEL; omega) 
  simp only [f_X12_runsOf, i32_lit, i32_neg]
  exact h
theorem X12_runsDef (hL : RLay M) (hE : RE M A) {l : Nat} (hl : l < 8) : f_X12_runsOf 134 (i32 l) (i32 1) M = some (runs (A.df l) (A.sz l) 0 (i32 0), M) := by
  have hr := fun j => X12_defAt hL hE (l := l) (j := j) hl
  obtain ⟨hok, e1, -⟩ := hE
  have hz := hok.2.2.2.1 l
  have H : ∀ (k j n : Nat) (s : Int32), j + k = A.sz l → k < n → 
      f_X12_runsOf_5 n 134 (i32 l) (i32 1) s (i32 j) M = some (runs (A.df l) k j s, M) := by
    intro k
    induction k with
    | zero =>
      intro j n s hj hn 
      obtain ⟨n, rfl⟩ : ∃ m, n = m + 1 := ⟨n - 1, by omega⟩
      have h1 := hok.2.1 l j
      have h2 := hok.2.1 l (j - 1)
      simp (disch := omega) only [add_i0, cast_add1, cast_sub1, toNat120, i32_lit, i32_neg, i32_add, i32_sub, i32_mul, i32_nat, i32_le, i32_lt, i32_eq, inB_i, Int.toNat_natCast, mI_sI_eq, mI_sI_ne, mR_sR_eq, mR_sR_ne, mI_sR, mR_sI, mK_sI, mN_sI, mn_sI, mJ_sI, mK_sR, mN_sR, mn_sR, mJ_sR, mI_wI, mR_wI, mK_wI, mN_wI, mn_wI, mJ_wI, bnd_of, bndX_r, bndX_l, ap_of, if_true, if_false, if_pos, if_neg, ite_true, ite_false, not_true_eq_false, not_false_eq_true, Nat.reduceAdd, Nat.reduceMul, Nat.reduceEqDiff, Int.reduceToNat, Int.reduceNeg, f_X12_runsOf_5, f_X12_runsOf_66, f_X12_runsOf_70, f_X12_runsOf_71, f_X12_runsOf_84, runs, lp, hL.o, e1, hr]
      (first | done | with_reducible rfl | ((repeat' split) <;> (first | with_reducible rfl | (exfalso; omega) | grind)))
    | succ k ih =>
      intro j n s hj hn 
      obtain ⟨n, rfl⟩ : ∃ m, n = m + 1 := ⟨n - 1, by omega⟩
      have h1 := hok.2.1 l j
      have h2 := hok.2.1 l (j - 1)
      unfold runs at ih ⊢
      by_cases c : j = 0
      · subst c
        simp (disch := omega) only [add_i0, cast_add1, cast_sub1, toNat120, i32_lit, i32_neg, i32_add, i32_sub, i32_mul, i32_nat, i32_le, i32_lt, i32_eq, inB_i, Int.toNat_natCast, mI_sI_eq, mI_sI_ne, mR_sR_eq, mR_sR_ne, mI_sR, mR_sI, mK_sI, mN_sI, mn_sI, mJ_sI, mK_sR, mN_sR, mn_sR, mJ_sR, mI_wI, mR_wI, mK_wI, mN_wI, mn_wI, mJ_wI, bnd_of, bndX_r, bndX_l, ap_of, if_true, if_false, if_pos, if_neg, ite_true, ite_false, not_true_eq_false, not_false_eq_true, Nat.reduceAdd, Nat.reduceMul, Nat.reduceEqDiff, Int.reduceToNat, Int.reduceNeg, f_X12_runsOf_5, f_X12_runsOf_66, f_X12_runsOf_70, f_X12_runsOf_71, f_X12_runsOf_84, lp, hL.o, e1, hr, ih]
        (first | done | with_reducible rfl | ((repeat' split) <;> (first | with_reducible rfl | (exfalso; omega) | grind)))
      · simp (disch := omega) only [add_i0, cast_add1, cast_sub1, toNat120, i32_lit, i32_neg, i32_add, i32_sub, i32_mul, i32_nat, i32_le, i32_lt, i32_eq, inB_i, Int.toNat_natCast, mI_sI_eq, mI_sI_ne, mR_sR_eq, mR_sR_ne, mI_sR, mR_sI, mK_sI, mN_sI, mn_sI, mJ_sI, mK_sR, mN_sR, mn_sR, mJ_sR, mI_wI, mR_wI, mK_wI, mN_wI, mn_wI, mJ_wI, bnd_of, bndX_r, bndX_l, ap_of, if_true, if_false, if_pos, if_neg, ite_true, ite_false, not_true_eq_false, not_false_eq_true, Nat.reduceAdd, Nat.reduceMul, Nat.reduceEqDiff, Int.reduceToNat, Int.reduceNeg, f_X12_runsOf_5, f_X12_runsOf_66, f_X12_runsOf_70, f_X12_runsOf_71, f_X12_runsOf_84, lp, hL.o, e1, hr, ih]
        (first | done | with_reducible rfl | ((repeat' split) <;> (first | with_reducible rfl | (exfalso; omega) | grind)))
  have h := H (A.sz l) 0 FUEL (i32 0) (by omega) (by unfold FUEL; omega) 
  simp only [f_X12_runsOf, i32_lit, i32_neg]
  exact h
/-- the reference's first entry: the end, if there is none -/
def firstR (A : St) (l : Nat) (r : Int) : Int := if firstFrom (A.rp l) r (A.sz l) 0 0 = -1 then A.sz l else firstFrom (A.rp l) r (A.sz l) 0 0
theorem X12_firstOf (hL : RLay M) (hE : RE M A) {l : Nat} (hl : l < 8) (r : Int) (hr0 : 0 ≤ r) (hr1 : r ≤ 2147483647) : f_X12_firstOf 134 (i32 l) (i32 r) M = some (i32 (firstR A l r), M) := by
  have hr := fun j => X12_repAt hL hE (l := l) (j := j) hl
  obtain ⟨hok, e1, -⟩ := hE
  have hz := hok.2.2.2.1 l
  have H : ∀ (k j n : Nat) (a : Int), j + k = A.sz l → k < n → 0 ≤ a → a ≤ r → 
      f_X12_firstOf_5 n 134 (i32 l) (i32 (r - a)) (i32 j) M = some (i32 (if firstFrom (A.rp l) r k j a = -1 then A.sz l else firstFrom (A.rp l) r k j a), M) := by
    intro k
    induction k with
    | zero =>
      intro j n a hj hn q0 q1
      obtain ⟨n, rfl⟩ : ∃ m, n = m + 1 := ⟨n - 1, by omega⟩
      have h1 := hok.1 l j
      simp (disch := omega) only [add_i0, cast_add1, cast_sub1, toNat120, i32_lit, i32_neg, i32_add, i32_sub, i32_mul, i32_nat, i32_le, i32_lt, i32_eq, inB_i, Int.toNat_natCast, mI_sI_eq, mI_sI_ne, mR_sR_eq, mR_sR_ne, mI_sR, mR_sI, mK_sI, mN_sI, mn_sI, mJ_sI, mK_sR, mN_sR, mn_sR, mJ_sR, mI_wI, mR_wI, mK_wI, mN_wI, mn_wI, mJ_wI, bnd_of, bndX_r, bndX_l, ap_of, if_true, if_false, if_pos, if_neg, ite_true, ite_false, not_true_eq_false, not_false_eq_true, Nat.reduceAdd, Nat.reduceMul, Nat.reduceEqDiff, Int.reduceToNat, Int.reduceNeg, f_X12_firstOf_5, firstFrom, hL.o, e1, hr]
    | succ k ih =>
      intro j n a hj hn q0 q1
      obtain ⟨n, rfl⟩ : ∃ m, n = m + 1 := ⟨n - 1, by omega⟩
      have h1 := hok.1 l j
      by_cases c1 : A.rp l j = 0
      · by_cases c2 : a = r
        · simp (disch := omega) only [add_i0, cast_add1, cast_sub1, toNat120, i32_lit, i32_neg, i32_add, i32_sub, i32_mul, i32_nat, i32_le, i32_lt, i32_eq, inB_i, Int.toNat_natCast, mI_sI_eq, mI_sI_ne, mR_sR_eq, mR_sR_ne, mI_sR, mR_sI, mK_sI, mN_sI, mn_sI, mJ_sI, mK_sR, mN_sR, mn_sR, mJ_sR, mI_wI, mR_wI, mK_wI, mN_wI, mn_wI, mJ_wI, bnd_of, bndX_r, bndX_l, ap_of, if_true, if_false, if_pos, if_neg, ite_true, ite_false, not_true_eq_false, not_false_eq_true, Nat.reduceAdd, Nat.reduceMul, Nat.reduceEqDiff, Int.reduceToNat, Int.reduceNeg, f_X12_firstOf_5, f_X12_firstOf_39, firstFrom, hL.o, e1, hr, c1, c2]
        · have ih2 := ih (j + 1) n (a + 1) (by omega) (by omega) (by omega) (by omega)
          rw [show r - (a + 1) = r - a + -1 by omega] at ih2
          simp (disch := omega) only [add_i0, cast_add1, cast_sub1, toNat120, i32_lit, i32_neg, i32_add, i32_sub, i32_mul, i32_nat, i32_le, i32_lt, i32_eq, inB_i, Int.toNat_natCast, mI_sI_eq, mI_sI_ne, mR_sR_eq, mR_sR_ne, mI_sR, mR_sI, mK_sI, mN_sI, mn_sI, mJ_sI, mK_sR, mN_sR, mn_sR, mJ_sR, mI_wI, mR_wI, mK_wI, mN_wI, mn_wI, mJ_wI, bnd_of, bndX_r, bndX_l, ap_of, if_true, if_false, if_pos, if_neg, ite_true, ite_false, not_true_eq_false, not_false_eq_true, Nat.reduceAdd, Nat.reduceMul, Nat.reduceEqDiff, Int.reduceToNat, Int.reduceNeg, f_X12_firstOf_5, f_X12_firstOf_39, firstFrom, hL.o, e1, hr, c1, c2, ih2]
      · have ih2 := ih (j + 1) n a (by omega) (by omega) (by omega) (by omega)
        simp (disch := omega) only [add_i0, cast_add1, cast_sub1, toNat120, i32_lit, i32_neg, i32_add, i32_sub, i32_mul, i32_nat, i32_le, i32_lt, i32_eq, inB_i, Int.toNat_natCast, mI_sI_eq, mI_sI_ne, mR_sR_eq, mR_sR_ne, mI_sR, mR_sI, mK_sI, mN_sI, mn_sI, mJ_sI, mK_sR, mN_sR, mn_sR, mJ_sR, mI_wI, mR_wI, mK_wI, mN_wI, mn_wI, mJ_wI, bnd_of, bndX_r, bndX_l, ap_of, if_true, if_false, if_pos, if_neg, ite_true, ite_false, not_true_eq_false, not_false_eq_true, Nat.reduceAdd, Nat.reduceMul, Nat.reduceEqDiff, Int.reduceToNat, Int.reduceNeg, f_X12_firstOf_5, f_X12_firstOf_39, firstFrom, hL.o, e1, hr, c1, ih2]
  have h := H (A.sz l) 0 FUEL 0 (by omega) (by unfold FUEL; omega) (by omega) (by omega)
  rw [show r - 0 = r by omega] at h
  unfold f_X12_firstOf firstR
  simp only [i32_lit]
  exact h
end
