/-! HARMLESS in the class -/
def harmRB (S : Sc) (A : St) (l j : Nat) (v : Int) : Bool := decide (v ≠ A.rp l j ∧ v ≠ 0 ∧ A.rp l j ≠ 0 ∧ j ≠ 0 ∧ needS S l v ≤ A.df l j ∧ needS S l v ≤ A.df l (j - 1) ∧ (l = 0 ∨ S.lev l (l - 1) < min v (A.rp l j)) ∧ (S.nl ≤ l + 1 ∨ S.lev l (l + 1) < min v (A.rp l j)))
def harmDB (S : Sc) (A : St) (l j : Nat) (v : Int) : Bool := decide (v ≠ A.df l j ∧ needS S l (A.rp l j) ≤ v ∧ (j + 1 < A.sz l → needS S l (A.rp l (j + 1)) ≤ v) ∧ (l = 0 ∨ S.lev l (l - 1) < A.rp l j ∨ min v (S.deep l (l - 1)) = min (A.df l j) (S.deep l (l - 1))) ∧ (S.nl ≤ l + 1 ∨ S.lev l (l + 1) < A.rp l j ∨ min v (S.deep l (l + 1)) = min (A.df l j) (S.deep l (l + 1))))
theorem harmRB_iff (S : Sc) (A : St) (l j : Nat) (v : Int) : harmRB S A l j v = true ↔ harmR S A l j v := by
  unfold harmRB harmR
  exact decide_eq_true_iff
theorem harmDB_iff (S : Sc) (A : St) (l j : Nat) (v : Int) : harmDB S A l j v = true ↔ harmD S A l j v := by
  unfold harmDB harmD
  exact decide_eq_true_iff
section
variable {M : Mem} {s : Nat} {S : Sc} {A : St}
theorem X1_repIsHarmless (hW : S.wf) (hV : CV M s S A) (hK : ChkAt M s) {l j : Nat} (hl : l < S.nl) (hj : j < A.sz l) (v : Int) (v0 : 0 ≤ v) (v9 : v ≤ 9) : f_X1_repIsHarmless 7 (i32 l) (i32 j) (i32 v) M = some (if harmRB S A l j v = true then i32 1 else i32 0, M) := by
  have hS := hW.1
  have hnl := hS.2.1
  obtain ⟨hL, hc, hs, hC, hA, hrc, h7, h8, h9⟩ := hV
  have hn := X1_needOf hL hs hS hC hK hl v v0 v9
  have hnb := needS_b hS l v
  have b := St.b hA.1 l j
  have b2 := St.b hA.1 l (j - 1)
  have hcol := hc.2.2.2.2.2.2.2.2.2.2
  simp only [Nat.reduceSub] at hcol
  have bl1 := Sc.lev_b hS l (l - 1)
  have bl2 := Sc.lev_b hS l (l + 1)
  have g1 := fun h => X5_levelOf hs hS hC hl (o := l - 1) h
  have g2 := fun h => X5_levelOf hs hS hC hl (o := l + 1) h
  have c1 := hC.2.1
  obtain ⟨hok, a1, a2, a3, a4, -⟩ := hA
  have tail : ∀ x : Int, 0 ≤ x → x ≤ 9 → f_X1_repIsHarmless_105 7 (i32 l) (i32 x) M = some (if S.nl ≤ l + 1 ∨ S.lev l (l + 1) < x then i32 1 else i32 0, M) := by
    intro x x0 x9
    by_cases d : S.nl ≤ l + 1
    · simp (disch := omega) only [↓reduceIte, add_i0, cast_add1, cast_sub1, toNat120, i32_lit, i32_neg, i32_add, i32_sub, i32_mul, i32_nat, i32_le, i32_lt, i32_eq, inB_i, Int.toNat_natCast, mI_sI_eq, mI_sI_ne, mR_sR_eq, mR_sR_ne, mI_sR, mR_sI, mK_sI, mN_sI, mn_sI, mJ_sI, mK_sR, mN_sR, mn_sR, mJ_sR, mI_wI, mR_wI, mK_wI, mN_wI, mn_wI, mJ_wI, ↓bnd_of, ↓bndX_r, ↓bndX_l, ↓ap_of, bnd_of, bndX_r, bndX_l, if_true, if_false, ite_true, ite_false, not_true_eq_false, not_false_eq_true, Nat.reduceAdd, Nat.reduceMul, Nat.reduceEqDiff, Int.reduceToNat, Int.reduceNeg, Ilt_t, Ilt_f, Ile_t, Ile_f, Ieq_t, Ieq_f, Nlt_t, Nlt_f, Nle_t, Nle_f, Neq_t, Neq_f, or_true, true_or, or_false, false_or, and_true, true_and, and_false, false_and, ne_eq, or_self, and_self, decide_true, decide_false, Bool.false_eq_true, f_X1_repIsHarmless_105, f_X1_repIsHarmless_134, hL.o, hK, hs.o, c1]
    · have e := g2 (by omega)
      by_cases d2 : S.lev l (l + 1) < x
      · simp (disch := omega) only [↓reduceIte, add_i0, cast_add1, cast_sub1, toNat120, i32_lit, i32_neg, i32_add, i32_sub, i32_mul, i32_nat, i32_le, i32_lt, i32_eq, inB_i, Int.toNat_natCast, mI_sI_eq, mI_sI_ne, mR_sR_eq, mR_sR_ne, mI_sR, mR_sI, mK_sI, mN_sI, mn_sI, mJ_sI, mK_sR, mN_sR, mn_sR, mJ_sR, mI_wI, mR_wI, mK_wI, mN_wI, mn_wI, mJ_wI, ↓bnd_of, ↓bndX_r, ↓bndX_l, ↓ap_of, bnd_of, bndX_r, bndX_l, if_true, if_false, ite_true, ite_false, not_true_eq_false, not_false_eq_true, Nat.reduceAdd, Nat.reduceMul, Nat.reduceEqDiff, Int.reduceToNat, Int.reduceNeg, Ilt_t, Ilt_f, Ile_t, Ile_f, Ieq_t, Ieq_f, Nlt_t, Nlt_f, Nle_t, Nle_f, Neq_t, Neq_f, or_true, true_or, or_false, false_or, and_true, true_and, and_false, false_and, ne_eq, or_self, and_self, decide_true, decide_false, Bool.false_eq_true, f_X1_repIsHarmless_105, f_X1_repIsHarmless_134, hL.o, hK, hs.o, c1, e]
      · simp (disch := omega) only [↓reduceIte, add_i0, cast_add1, cast_sub1, toNat120, i32_lit, i32_neg, i32_add, i32_sub, i32_mul, i32_nat, i32_le, i32_lt, i32_eq, inB_i, Int.toNat_natCast, mI_sI_eq, mI_sI_ne, mR_sR_eq, mR_sR_ne, mI_sR, mR_sI, mK_sI, mN_sI, mn_sI, mJ_sI, mK_sR, mN_sR, mn_sR, mJ_sR, mI_wI, mR_wI, mK_wI, mN_wI, mn_wI, mJ_wI, ↓bnd_of, ↓bndX_r, ↓bndX_l, ↓ap_of, bnd_of, bndX_r, bndX_l, if_true, if_false, ite_true, ite_false, not_true_eq_false, not_false_eq_true, Nat.reduceAdd, Nat.reduceMul, Nat.reduceEqDiff, Int.reduceToNat, Int.reduceNeg, Ilt_t, Ilt_f, Ile_t, Ile_f, Ieq_t, Ieq_f, Nlt_t, Nlt_f, Nle_t, Nle_f, Neq_t, Neq_f, or_true, true_or, or_false, false_or, and_true, true_and, and_false, false_and, ne_eq, or_self, and_self, decide_true, decide_false, Bool.false_eq_true, f_X1_repIsHarmless_105, f_X1_repIsHarmless_134, hL.o, hK, hs.o, c1, e]
  by_cases d1 : v = A.rp l j
  · have hb : harmRB S A l j v = false := by unfold harmRB; simp [d1]
    rw [hb]
    simp (disch := omega) only [↓reduceIte, add_i0, cast_add1, cast_sub1, toNat120, i32_lit, i32_neg, i32_add, i32_sub, i32_mul, i32_nat, i32_le, i32_lt, i32_eq, inB_i, Int.toNat_natCast, mI_sI_eq, mI_sI_ne, mR_sR_eq, mR_sR_ne, mI_sR, mR_sI, mK_sI, mN_sI, mn_sI, mJ_sI, mK_sR, mN_sR, mn_sR, mJ_sR, mI_wI, mR_wI, mK_wI, mN_wI, mn_wI, mJ_wI, ↓bnd_of, ↓bndX_r, ↓bndX_l, ↓ap_of, bnd_of, bndX_r, bndX_l, if_true, if_false, ite_true, ite_false, not_true_eq_false, not_false_eq_true, Nat.reduceAdd, Nat.reduceMul, Nat.reduceEqDiff, Int.reduceToNat, Int.reduceNeg, Ilt_t, Ilt_f, Ile_t, Ile_f, Ieq_t, Ieq_f, Nlt_t, Nlt_f, Nle_t, Nle_f, Neq_t, Neq_f, or_true, true_or, or_false, false_or, and_true, true_and, and_false, false_and, ne_eq, or_self, and_self, decide_true, decide_false, Bool.false_eq_true, f_X1_repIsHarmless, hL.o, hK, hcol, hc, a2]
  by_cases d2 : v = 0
  · have hb : harmRB S A l j v = false := by unfold harmRB; simp [d2]
    rw [hb]
    simp (disch := omega) only [↓reduceIte, add_i0, cast_add1, cast_sub1, toNat120, i32_lit, i32_neg, i32_add, i32_sub, i32_mul, i32_nat, i32_le, i32_lt, i32_eq, inB_i, Int.toNat_natCast, mI_sI_eq, mI_sI_ne, mR_sR_eq, mR_sR_ne, mI_sR, mR_sI, mK_sI, mN_sI, mn_sI, mJ_sI, mK_sR, mN_sR, mn_sR, mJ_sR, mI_wI, mR_wI, mK_wI, mN_wI, mn_wI, mJ_wI, ↓bnd_of, ↓bndX_r, ↓bndX_l, ↓ap_of, bnd_of, bndX_r, bndX_l, if_true, if_false, ite_true, ite_false, not_true_eq_false, not_false_eq_true, Nat.reduceAdd, Nat.reduceMul, Nat.reduceEqDiff, Int.reduceToNat, Int.reduceNeg, Ilt_t, Ilt_f, Ile_t, Ile_f, Ieq_t, Ieq_f, Nlt_t, Nlt_f, Nle_t, Nle_f, Neq_t, Neq_f, or_true, true_or, or_false, false_or, and_true, true_and, and_false, false_and, ne_eq, or_self, and_self, decide_true, decide_false, Bool.false_eq_true, f_X1_repIsHarmless, hL.o, hK, hcol, hc, a2]
  by_cases d3 : A.rp l j = 0
  · have hb : harmRB S A l j v = false := by unfold harmRB; simp [d3]
    rw [hb]
    simp (disch := omega) only [↓reduceIte, add_i0, cast_add1, cast_sub1, toNat120, i32_lit, i32_neg, i32_add, i32_sub, i32_mul, i32_nat, i32_le, i32_lt, i32_eq, inB_i, Int.toNat_natCast, mI_sI_eq, mI_sI_ne, mR_sR_eq, mR_sR_ne, mI_sR, mR_sI, mK_sI, mN_sI, mn_sI, mJ_sI, mK_sR, mN_sR, mn_sR, mJ_sR, mI_wI, mR_wI, mK_wI, mN_wI, mn_wI, mJ_wI, ↓bnd_of, ↓bndX_r, ↓bndX_l, ↓ap_of, bnd_of, bndX_r, bndX_l, if_true, if_false, ite_true, ite_false, not_true_eq_false, not_false_eq_true, Nat.reduceAdd, Nat.reduceMul, Nat.reduceEqDiff, Int.reduceToNat, Int.reduceNeg, Ilt_t, Ilt_f, Ile_t, Ile_f, Ieq_t, Ieq_f, Nlt_t, Nlt_f, Nle_t, Nle_f, Neq_t, Neq_f, or_true, true_or, or_false, false_or, and_true, true_and, and_false, false_and, ne_eq, or_self, and_self, decide_true, decide_false, Bool.false_eq_true, f_X1_repIsHarmless, hL.o, hK, hcol, hc, a2]
  by_cases d4 : j = 0
  · have hb : harmRB S A l j v = false := by unfold harmRB; simp [d4]
    rw [hb]
    simp (disch := omega) only [↓reduceIte, add_i0, cast_add1, cast_sub1, toNat120, i32_lit, i32_neg, i32_add, i32_sub, i32_mul, i32_nat, i32_le, i32_lt, i32_eq, inB_i, Int.toNat_natCast, mI_sI_eq, mI_sI_ne, mR_sR_eq, mR_sR_ne, mI_sR, mR_sI, mK_sI, mN_sI, mn_sI, mJ_sI, mK_sR, mN_sR, mn_sR, mJ_sR, mI_wI, mR_wI, mK_wI, mN_wI, mn_wI, mJ_wI, ↓bnd_of, ↓bndX_r, ↓bndX_l, ↓ap_of, bnd_of, bndX_r, bndX_l, if_true, if_false, ite_true, ite_false, not_true_eq_false, not_false_eq_true, Nat.reduceAdd, Nat.reduceMul, Nat.reduceEqDiff, Int.reduceToNat, Int.reduceNeg, Ilt_t, Ilt_f, Ile_t, Ile_f, Ieq_t, Ieq_f, Nlt_t, Nlt_f, Nle_t, Nle_f, Neq_t, Neq_f, or_true, true_or, or_false, false_or, and_true, true_and, and_false, false_and, ne_eq, or_self, and_self, decide_true, decide_false, Bool.false_eq_true, f_X1_repIsHarmless, hL.o, hK, hcol, hc, a2]
  by_cases d5 : needS S l v ≤ A.df l j
  · by_cases d6 : needS S l v ≤ A.df l (j - 1)
    · by_cases d7 : l = 0
      · have hb : harmRB S A l j v = decide (S.nl ≤ l + 1 ∨ S.lev l (l + 1) < min v (A.rp l j)) := by
          unfold harmRB
          have e7 : (l = 0 ∨ S.lev l (l - 1) < min v (A.rp l j)) = True := eq_true (Or.inl d7)
          simp only [ne_eq, d1, d2, d3, d4, d5, d6, e7, not_false_eq_true, true_and]
        rw [hb]
        have t := tail (min v (A.rp l j)) (by omega) (by omega)
        simp (disch := omega) only [↓reduceIte, add_i0, cast_add1, cast_sub1, toNat120, i32_lit, i32_neg, i32_add, i32_sub, i32_mul, i32_nat, i32_le, i32_lt, i32_eq, inB_i, Int.toNat_natCast, mI_sI_eq, mI_sI_ne, mR_sR_eq, mR_sR_ne, mI_sR, mR_sI, mK_sI, mN_sI, mn_sI, mJ_sI, mK_sR, mN_sR, mn_sR, mJ_sR, mI_wI, mR_wI, mK_wI, mN_wI, mn_wI, mJ_wI, ↓bnd_of, ↓bndX_r, ↓bndX_l, ↓ap_of, bnd_of, bndX_r, bndX_l, if_true, if_false, ite_true, ite_false, not_true_eq_false, not_false_eq_true, Nat.reduceAdd, Nat.reduceMul, Nat.reduceEqDiff, Int.reduceToNat, Int.reduceNeg, Ilt_t, Ilt_f, Ile_t, Ile_f, Ieq_t, Ieq_f, Nlt_t, Nlt_f, Nle_t, Nle_f, Neq_t, Neq_f, or_true, true_or, or_false, false_or, and_true, true_and, and_false, false_and, ne_eq, or_self, and_self, decide_true, decide_false, Bool.false_eq_true, f_X1_repIsHarmless, hL.o, hK, hcol, hc, a2, a3, ↓bx hn, imin2, t, decide_eq_true_eq]
      · have e := g1 (by omega)
        have t := tail (min v (A.rp l j)) (by omega) (by omega)
        by_cases d8 : S.lev l (l - 1) < min v (A.rp l j)
        · have hb : harmRB S A l j v = decide (S.nl ≤ l + 1 ∨ S.lev l (l + 1) < min v (A.rp l j)) := by unfold harmRB; simp only [ne_eq, d1, d2, d3, d4, d5, d6, d8, not_false_eq_true, true_and, or_true]
          rw [hb]
          simp (disch := omega) only [↓reduceIte, add_i0, cast_add1, cast_sub1, toNat120, i32_lit, i32_neg, i32_add, i32_sub, i32_mul, i32_nat, i32_le, i32_lt, i32_eq, inB_i, Int.toNat_natCast, mI_sI_eq, mI_sI_ne, mR_sR_eq, mR_sR_ne, mI_sR, mR_sI, mK_sI, mN_sI, mn_sI, mJ_sI, mK_sR, mN_sR, mn_sR, mJ_sR, mI_wI, mR_wI, mK_wI, mN_wI, mn_wI, mJ_wI, ↓bnd_of, ↓bndX_r, ↓bndX_l, ↓ap_of, bnd_of, bndX_r, bndX_l, if_true, if_false, ite_true, ite_false, not_true_eq_false, not_false_eq_true, Nat.reduceAdd, Nat.reduceMul, Nat.reduceEqDiff, Int.reduceToNat, Int.reduceNeg, Ilt_t, Ilt_f, Ile_t, Ile_f, Ieq_t, Ieq_f, Nlt_t, Nlt_f, Nle_t, Nle_f, Neq_t, Neq_f, or_true, true_or, or_false, false_or, and_true, true_and, and_false, false_and, ne_eq, or_self, and_self, decide_true, decide_false, Bool.false_eq_true, f_X1_repIsHarmless, hL.o, hK, hcol, hc, a2, a3, hs.o, ↓bx hn, imin2, e, t, decide_eq_true_eq]
        · have hb : harmRB S A l j v = false := by unfold harmRB; simp only [d7, d8, or_self, false_and, and_false, decide_false]
          rw [hb]
          simp (disch := omega) only [↓reduceIte, add_i0, cast_add1, cast_sub1, toNat120, i32_lit, i32_neg, i32_add, i32_sub, i32_mul, i32_nat, i32_le, i32_lt, i32_eq, inB_i, Int.toNat_natCast, mI_sI_eq, mI_sI_ne, mR_sR_eq, mR_sR_ne, mI_sR, mR_sI, mK_sI, mN_sI, mn_sI, mJ_sI, mK_sR, mN_sR, mn_sR, mJ_sR, mI_wI, mR_wI, mK_wI, mN_wI, mn_wI, mJ_wI, ↓bnd_of, ↓bndX_r, ↓bndX_l, ↓ap_of, bnd_of, bndX_r, bndX_l, if_true, if_false, ite_true, ite_false, not_true_eq_false, not_false_eq_true, Nat.reduceAdd, Nat.reduceMul, Nat.reduceEqDiff, Int.reduceToNat, Int.reduceNeg, Ilt_t, Ilt_f, Ile_t, Ile_f, Ieq_t, Ieq_f, Nlt_t, Nlt_f, Nle_t, Nle_f, Neq_t, Neq_f, or_true, true_or, or_false, false_or, and_true, true_and, and_false, false_and, ne_eq, or_self, and_self, decide_true, decide_false, Bool.false_eq_true, f_X1_repIsHarmless, hL.o, hK, hcol, hc, a2, a3, hs.o, ↓bx hn, imin2, e]
    · have hb : harmRB S A l j v = false := by unfold harmRB; simp [d6]
      rw [hb]
      simp (disch := omega) only [↓reduceIte, add_i0, cast_add1, cast_sub1, toNat120, i32_lit, i32_neg, i32_add, i32_sub, i32_mul, i32_nat, i32_le, i32_lt, i32_eq, inB_i, Int.toNat_natCast, mI_sI_eq, mI_sI_ne, mR_sR_eq, mR_sR_ne, mI_sR, mR_sI, mK_sI, mN_sI, mn_sI, mJ_sI, mK_sR, mN_sR, mn_sR, mJ_sR, mI_wI, mR_wI, mK_wI, mN_wI, mn_wI, mJ_wI, ↓bnd_of, ↓bndX_r, ↓bndX_l, ↓ap_of, bnd_of, bndX_r, bndX_l, if_true, if_false, ite_true, ite_false, not_true_eq_false, not_false_eq_true, Nat.reduceAdd, Nat.reduceMul, Nat.reduceEqDiff, Int.reduceToNat, Int.reduceNeg, Ilt_t, Ilt_f, Ile_t, Ile_f, Ieq_t, Ieq_f, Nlt_t, Nlt_f, Nle_t, Nle_f, Neq_t, Neq_f, or_true, true_or, or_false, false_or, and_true, true_and, and_false, false_and, ne_eq, or_self, and_self, decide_true, decide_false, Bool.false_eq_true, f_X1_repIsHarmless, hL.o, hK, hcol, hc, a2, a3, ↓bx hn]
  · have hb : harmRB S A l j v = false := by unfold harmRB; simp [d5]
    rw [hb]
    simp (disch := omega) only [↓reduceIte, add_i0, cast_add1, cast_sub1, toNat120, i32_lit, i32_neg, i32_add, i32_sub, i32_mul, i32_nat, i32_le, i32_lt, i32_eq, inB_i, Int.toNat_natCast, mI_sI_eq, mI_sI_ne, mR_sR_eq, mR_sR_ne, mI_sR, mR_sI, mK_sI, mN_sI, mn_sI, mJ_sI, mK_sR, mN_sR, mn_sR, mJ_sR, mI_wI, mR_wI, mK_wI, mN_wI, mn_wI, mJ_wI, ↓bnd_of, ↓bndX_r, ↓bndX_l, ↓ap_of, bnd_of, bndX_r, bndX_l, if_true, if_false, ite_true, ite_false, not_true_eq_false, not_false_eq_true, Nat.reduceAdd, Nat.reduceMul, Nat.reduceEqDiff, Int.reduceToNat, Int.reduceNeg, Ilt_t, Ilt_f, Ile_t, Ile_f, Ieq_t, Ieq_f, Nlt_t, Nlt_f, Nle_t, Nle_f, Neq_t, Neq_f, or_true, true_or, or_false, false_or, and_true, true_and, and_false, false_and, ne_eq, or_self, and_self, decide_true, decide_false, Bool.false_eq_true, f_X1_repIsHarmless, hL.o, hK, hcol, hc, a2, a3, ↓bx hn]
theorem X1_looksAlike (hW : S.wf) (hV : CV M s S A) (hK : ChkAt M s) {l o j : Nat} (hl : l < S.nl) (ho : o < S.nl) (hj : j < A.sz l) (v : Int) (v0 : 0 ≤ v) (v9 : v ≤ 9) : f_X1_looksAlike 7 (i32 l) (i32 o) (i32 j) (i32 v) M = some (if S.lev l o < A.rp l j ∨ min v (S.deep l o) = min (A.df l j) (S.deep l o) then i32 1 else i32 0, M) := by
  have hS := hW.1
  have hnl := hS.2.1
  obtain ⟨hL, hc, hs, hC, hA, hrc, h7, h8, h9⟩ := hV
  have b := St.b hA.1 l j
  have hcol := hc.2.2.2.2.2.2.2.2.2.2
  simp only [Nat.reduceSub] at hcol
  have bl := Sc.lev_b hS l o
  have bd := Sc.deep_b hS l o
  have g1 := X5_levelOf hs hS hC hl ho
  have g2 := X1_mostShared hL hs hS hC hK hl ho
  obtain ⟨hok, a1, a2, a3, a4, -⟩ := hA
  by_cases d1 : S.lev l o < A.rp l j
  · simp (disch := omega) only [↓reduceIte, add_i0, cast_add1, cast_sub1, toNat120, i32_lit, i32_neg, i32_add, i32_sub, i32_mul, i32_nat, i32_le, i32_lt, i32_eq, inB_i, Int.toNat_natCast, mI_sI_eq, mI_sI_ne, mR_sR_eq, mR_sR_ne, mI_sR, mR_sI, mK_sI, mN_sI, mn_sI, mJ_sI, mK_sR, mN_sR, mn_sR, mJ_sR, mI_wI, mR_wI, mK_wI, mN_wI, mn_wI, mJ_wI, ↓bnd_of, ↓bndX_r, ↓bndX_l, ↓ap_of, bnd_of, bndX_r, bndX_l, if_true, if_false, ite_true, ite_false, not_true_eq_false, not_false_eq_true, Nat.reduceAdd, Nat.reduceMul, Nat.reduceEqDiff, Int.reduceToNat, Int.reduceNeg, Ilt_t, Ilt_f, Ile_t, Ile_f, Ieq_t, Ieq_f, Nlt_t, Nlt_f, Nle_t, Nle_f, Neq_t, Neq_f, or_true, true_or, or_false, false_or, and_true, true_and, and_false, false_and, ne_eq, or_self, and_self, decide_true, decide_false, Bool.false_eq_true, f_X1_looksAlike, f_X1_looksAlike_60, hL.o, hK, hcol, hc, a2, a3, hs.o, ↓bx g2, g1, imin1]
  · by_cases d2 : min v (S.deep l o) = min (A.df l j) (S.deep l o)
    · simp (disch := omega) only [↓reduceIte, add_i0, cast_add1, cast_sub1, toNat120, i32_lit, i32_neg, i32_add, i32_sub, i32_mul, i32_nat, i32_le, i32_lt, i32_eq, inB_i, Int.toNat_natCast, mI_sI_eq, mI_sI_ne, mR_sR_eq, mR_sR_ne, mI_sR, mR_sI, mK_sI, mN_sI, mn_sI, mJ_sI, mK_sR, mN_sR, mn_sR, mJ_sR, mI_wI, mR_wI, mK_wI, mN_wI, mn_wI, mJ_wI, ↓bnd_of, ↓bndX_r, ↓bndX_l, ↓ap_of, bnd_of, bndX_r, bndX_l, if_true, if_false, ite_true, ite_false, not_true_eq_false, not_false_eq_true, Nat.reduceAdd, Nat.reduceMul, Nat.reduceEqDiff, Int.reduceToNat, Int.reduceNeg, Ilt_t, Ilt_f, Ile_t, Ile_f, Ieq_t, Ieq_f, Nlt_t, Nlt_f, Nle_t, Nle_f, Neq_t, Neq_f, or_true, true_or, or_false, false_or, and_true, true_and, and_false, false_and, ne_eq, or_self, and_self, decide_true, decide_false, Bool.false_eq_true, f_X1_looksAlike, f_X1_looksAlike_60, hL.o, hK, hcol, hc, a2, a3, hs.o, ↓bx g2, g1, imin1]
    · simp (disch := omega) only [↓reduceIte, add_i0, cast_add1, cast_sub1, toNat120, i32_lit, i32_neg, i32_add, i32_sub, i32_mul, i32_nat, i32_le, i32_lt, i32_eq, inB_i, Int.toNat_natCast, mI_sI_eq, mI_sI_ne, mR_sR_eq, mR_sR_ne, mI_sR, mR_sI, mK_sI, mN_sI, mn_sI, mJ_sI, mK_sR, mN_sR, mn_sR, mJ_sR, mI_wI, mR_wI, mK_wI, mN_wI, mn_wI, mJ_wI, ↓bnd_of, ↓bndX_r, ↓bndX_l, ↓ap_of, bnd_of, bndX_r, bndX_l, if_true, if_false, ite_true, ite_false, not_true_eq_false, not_false_eq_true, Nat.reduceAdd, Nat.reduceMul, Nat.reduceEqDiff, Int.reduceToNat, Int.reduceNeg, Ilt_t, Ilt_f, Ile_t, Ile_f, Ieq_t, Ieq_f, Nlt_t, Nlt_f, Nle_t, Nle_f, Neq_t, Neq_f, or_true, true_or, or_false, false_or, and_true, true_and, and_false, false_and, ne_eq, or_self, and_self, decide_true, decide_false, Bool.false_eq_true, f_X1_looksAlike, f_X1_looksAlike_60, hL.o, hK, hcol, hc, a2, a3, hs.o, ↓bx g2, g1, imin1]
theorem X1_defIsHarmless (hW : S.wf) (hV : CV M s S A) (hK : ChkAt M s) {l j : Nat} (hl : l < S.nl) (hj : j < A.sz l) (v : Int) (v0 : 0 ≤ v) (v9 : v ≤ 9) : f_X1_defIsHarmless 7 (i32 l) (i32 j) (i32 v) M = some (if harmDB S A l j v = true then i32 1 else i32 0, M) := by
  have hS := hW.1
  have hnl := hS.2.1
  have k1 := fun o ho => X1_looksAlike hW hV hK hl (o := o) ho hj v v0 v9
  obtain ⟨hL, hc, hs, hC, hA, hrc, h7, h8, h9⟩ := hV
  have b := St.b hA.1 l j
  have b2 := St.b hA.1 l (j + 1)
  have hn := X1_needOf hL hs hS hC hK hl (A.rp l j) (by omega) (by omega)
  have hn2 := X1_needOf hL hs hS hC hK hl (A.rp l (j + 1)) (by omega) (by omega)
  have hnb := needS_b hS l (A.rp l j)
  have hnb2 := needS_b hS l (A.rp l (j + 1))
  have hcol := hc.2.2.2.2.2.2.2.2.2.2
  simp only [Nat.reduceSub] at hcol
  have c1 := hC.2.1
  obtain ⟨hok, a1, a2, a3, a4, -⟩ := hA
  have t88 : f_X1_defIsHarmless_88 7 (i32 l) (i32 j) (i32 v) M = some (if S.nl ≤ l + 1 ∨ S.lev l (l + 1) < A.rp l j ∨ min v (S.deep l (l + 1)) = min (A.df l j) (S.deep l (l + 1)) then i32 1 else i32 0, M) := by
    by_cases d : S.nl ≤ l + 1
    · simp (disch := omega) only [↓reduceIte, add_i0, cast_add1, cast_sub1, toNat120, i32_lit, i32_neg, i32_add, i32_sub, i32_mul, i32_nat, i32_le, i32_lt, i32_eq, inB_i, Int.toNat_natCast, mI_sI_eq, mI_sI_ne, mR_sR_eq, mR_sR_ne, mI_sR, mR_sI, mK_sI, mN_sI, mn_sI, mJ_sI, mK_sR, mN_sR, mn_sR, mJ_sR, mI_wI, mR_wI, mK_wI, mN_wI, mn_wI, mJ_wI, ↓bnd_of, ↓bndX_r, ↓bndX_l, ↓ap_of, bnd_of, bndX_r, bndX_l, if_true, if_false, ite_true, ite_false, not_true_eq_false, not_false_eq_true, Nat.reduceAdd, Nat.reduceMul, Nat.reduceEqDiff, Int.reduceToNat, Int.reduceNeg, Ilt_t, Ilt_f, Ile_t, Ile_f, Ieq_t, Ieq_f, Nlt_t, Nlt_f, Nle_t, Nle_f, Neq_t, Neq_f, or_true, true_or, or_false, false_or, and_true, true_and, and_false, false_and, ne_eq, or_self, and_self, decide_true, decide_false, Bool.false_eq_true, f_X1_defIsHarmless_88, f_X1_defIsHarmless_114, hL.o, hK, hs.o, c1]
    · have e := k1 (l + 1) (by omega)
      by_cases d2 : S.lev l (l + 1) < A.rp l j ∨ min v (S.deep l (l + 1)) = min (A.df l j) (S.deep l (l + 1))
      · rw [if_pos d2] at e
        rw [if_pos (Or.inr d2)]
        simp (disch := omega) only [↓reduceIte, add_i0, cast_add1, cast_sub1, toNat120, i32_lit, i32_neg, i32_add, i32_sub, i32_mul, i32_nat, i32_le, i32_lt, i32_eq, inB_i, Int.toNat_natCast, mI_sI_eq, mI_sI_ne, mR_sR_eq, mR_sR_ne, mI_sR, mR_sI, mK_sI, mN_sI, mn_sI, mJ_sI, mK_sR, mN_sR, mn_sR, mJ_sR, mI_wI, mR_wI, mK_wI, mN_wI, mn_wI, mJ_wI, ↓bnd_of, ↓bndX_r, ↓bndX_l, ↓ap_of, bnd_of, bndX_r, bndX_l, if_true, if_false, ite_true, ite_false, not_true_eq_false, not_false_eq_true, Nat.reduceAdd, Nat.reduceMul, Nat.reduceEqDiff, Int.reduceToNat, Int.reduceNeg, Ilt_t, Ilt_f, Ile_t, Ile_f, Ieq_t, Ieq_f, Nlt_t, Nlt_f, Nle_t, Nle_f, Neq_t, Neq_f, or_true, true_or, or_false, false_or, and_true, true_and, and_false, false_and, ne_eq, or_self, and_self, decide_true, decide_false, Bool.false_eq_true, f_X1_defIsHarmless_88, f_X1_defIsHarmless_114, hL.o, hK, hs.o, c1, e]
      · rw [if_neg d2] at e
        rw [if_neg (fun q => q.elim d d2)]
        simp (disch := omega) only [↓reduceIte, add_i0, cast_add1, cast_sub1, toNat120, i32_lit, i32_neg, i32_add, i32_sub, i32_mul, i32_nat, i32_le, i32_lt, i32_eq, inB_i, Int.toNat_natCast, mI_sI_eq, mI_sI_ne, mR_sR_eq, mR_sR_ne, mI_sR, mR_sI, mK_sI, mN_sI, mn_sI, mJ_sI, mK_sR, mN_sR, mn_sR, mJ_sR, mI_wI, mR_wI, mK_wI, mN_wI, mn_wI, mJ_wI, ↓bnd_of, ↓bndX_r, ↓bndX_l, ↓ap_of, bnd_of, bndX_r, bndX_l, if_true, if_false, ite_true, ite_false, not_true_eq_false, not_false_eq_true, Nat.reduceAdd, Nat.reduceMul, Nat.reduceEqDiff, Int.reduceToNat, Int.reduceNeg, Ilt_t, Ilt_f, Ile_t, Ile_f, Ieq_t, Ieq_f, Nlt_t, Nlt_f, Nle_t, Nle_f, Neq_t, Neq_f, or_true, true_or, or_false, false_or, and_true, true_and, and_false, false_and, ne_eq, or_self, and_self, decide_true, decide_false, Bool.false_eq_true, f_X1_defIsHarmless_88, f_X1_defIsHarmless_114, hL.o, hK, hs.o, c1, e]
  have t71 : f_X1_defIsHarmless_71 7 (i32 l) (i32 j) (i32 v) M = some (if (l = 0 ∨ S.lev l (l - 1) < A.rp l j ∨ min v (S.deep l (l - 1)) = min (A.df l j) (S.deep l (l - 1))) ∧ (S.nl ≤ l + 1 ∨ S.lev l (l + 1) < A.rp l j ∨ min v (S.deep l (l + 1)) = min (A.df l j) (S.deep l (l + 1))) then i32 1 else i32 0, M) := by
    by_cases d : l = 0
    · have e : f_X1_defIsHarmless_71 7 (i32 l) (i32 j) (i32 v) M = f_X1_defIsHarmless_88 7 (i32 l) (i32 j) (i32 v) M := by
        simp (disch := omega) only [↓reduceIte, add_i0, cast_add1, cast_sub1, toNat120, i32_lit, i32_neg, i32_add, i32_sub, i32_mul, i32_nat, i32_le, i32_lt, i32_eq, inB_i, Int.toNat_natCast, mI_sI_eq, mI_sI_ne, mR_sR_eq, mR_sR_ne, mI_sR, mR_sI, mK_sI, mN_sI, mn_sI, mJ_sI, mK_sR, mN_sR, mn_sR, mJ_sR, mI_wI, mR_wI, mK_wI, mN_wI, mn_wI, mJ_wI, ↓bnd_of, ↓bndX_r, ↓bndX_l, ↓ap_of, bnd_of, bndX_r, bndX_l, if_true, if_false, ite_true, ite_false, not_true_eq_false, not_false_eq_true, Nat.reduceAdd, Nat.reduceMul, Nat.reduceEqDiff, Int.reduceToNat, Int.reduceNeg, Ilt_t, Ilt_f, Ile_t, Ile_f, Ieq_t, Ieq_f, Nlt_t, Nlt_f, Nle_t, Nle_f, Neq_t, Neq_f, or_true, true_or, or_false, false_or, and_true, true_and, and_false, false_and, ne_eq, or_self, and_self, decide_true, decide_false, Bool.false_eq_true, f_X1_defIsHarmless_71]
      rw [e, t88]
      simp only [d, true_or, true_and]
    · have e := k1 (l - 1) (by omega)
      by_cases d2 : S.lev l (l - 1) < A.rp l j ∨ min v (S.deep l (l - 1)) = min (A.df l j) (S.deep l (l - 1))
      · rw [if_pos d2] at e
        have e2 : f_X1_defIsHarmless_71 7 (i32 l) (i32 j) (i32 v) M = f_X1_defIsHarmless_88 7 (i32 l) (i32 j) (i32 v) M := by
          simp (disch := omega) only [↓reduceIte, add_i0, cast_add1, cast_sub1, toNat120, i32_lit, i32_neg, i32_add, i32_sub, i32_mul, i32_nat, i32_le, i32_lt, i32_eq, inB_i, Int.toNat_natCast, mI_sI_eq, mI_sI_ne, mR_sR_eq, mR_sR_ne, mI_sR, mR_sI, mK_sI, mN_sI, mn_sI, mJ_sI, mK_sR, mN_sR, mn_sR, mJ_sR, mI_wI, mR_wI, mK_wI, mN_wI, mn_wI, mJ_wI, ↓bnd_of, ↓bndX_r, ↓bndX_l, ↓ap_of, bnd_of, bndX_r, bndX_l, if_true, if_false, ite_true, ite_false, not_true_eq_false, not_false_eq_true, Nat.reduceAdd, Nat.reduceMul, Nat.reduceEqDiff, Int.reduceToNat, Int.reduceNeg, Ilt_t, Ilt_f, Ile_t, Ile_f, Ieq_t, Ieq_f, Nlt_t, Nlt_f, Nle_t, Nle_f, Neq_t, Neq_f, or_true, true_or, or_false, false_or, and_true, true_and, and_false, false_and, ne_eq, or_self, and_self, decide_true, decide_false, Bool.false_eq_true, f_X1_defIsHarmless_71, hL.o, e]
        rw [e2, t88]
        simp only [d2, or_true, true_and]
      · rw [if_neg d2] at e
        rw [if_neg (fun q => q.1.elim d d2)]
        simp (disch := omega) only [↓reduceIte, add_i0, cast_add1, cast_sub1, toNat120, i32_lit, i32_neg, i32_add, i32_sub, i32_mul, i32_nat, i32_le, i32_lt, i32_eq, inB_i, Int.toNat_natCast, mI_sI_eq, mI_sI_ne, mR_sR_eq, mR_sR_ne, mI_sR, mR_sI, mK_sI, mN_sI, mn_sI, mJ_sI, mK_sR, mN_sR, mn_sR, mJ_sR, mI_wI, mR_wI, mK_wI, mN_wI, mn_wI, mJ_wI, ↓bnd_of, ↓bndX_r, ↓bndX_l, ↓ap_of, bnd_of, bndX_r, bndX_l, if_true, if_false, ite_true, ite_false, not_true_eq_false, not_false_eq_true, Nat.reduceAdd, Nat.reduceMul, Nat.reduceEqDiff, Int.reduceToNat, Int.reduceNeg, Ilt_t, Ilt_f, Ile_t, Ile_f, Ieq_t, Ieq_f, Nlt_t, Nlt_f, Nle_t, Nle_f, Neq_t, Neq_f, or_true, true_or, or_false, false_or, and_true, true_and, and_false, false_and, ne_eq, or_self, and_self, decide_true, decide_false, Bool.false_eq_true, f_X1_defIsHarmless_71, hL.o, e]
  have hR : harmDB S A l j v = true ↔ (v ≠ A.df l j ∧ needS S l (A.rp l j) ≤ v ∧ (j + 1 < A.sz l → needS S l (A.rp l (j + 1)) ≤ v)) ∧ ((l = 0 ∨ S.lev l (l - 1) < A.rp l j ∨ min v (S.deep l (l - 1)) = min (A.df l j) (S.deep l (l - 1))) ∧ (S.nl ≤ l + 1 ∨ S.lev l (l + 1) < A.rp l j ∨ min v (S.deep l (l + 1)) = min (A.df l j) (S.deep l (l + 1)))) := by
    rw [harmDB_iff]
    unfold harmD
    constructor
    · rintro ⟨q1, q2, q3, q4, q5⟩; exact ⟨⟨q1, q2, q3⟩, q4, q5⟩
    · rintro ⟨⟨q1, q2, q3⟩, q4, q5⟩; exact ⟨q1, q2, q3, q4, q5⟩
  generalize hP : ((l = 0 ∨ S.lev l (l - 1) < A.rp l j ∨ min v (S.deep l (l - 1)) = min (A.df l j) (S.deep l (l - 1))) ∧ (S.nl ≤ l + 1 ∨ S.lev l (l + 1) < A.rp l j ∨ min v (S.deep l (l + 1)) = min (A.df l j) (S.deep l (l + 1)))) = P at hR
  have t71' : f_X1_defIsHarmless_71 7 (i32 l) (i32 j) (i32 v) M = some (if harmDB S A l j v = true ∨ ¬ (v ≠ A.df l j ∧ needS S l (A.rp l j) ≤ v ∧ (j + 1 < A.sz l → needS S l (A.rp l (j + 1)) ≤ v)) ∧ ((l = 0 ∨ S.lev l (l - 1) < A.rp l j ∨ min v (S.deep l (l - 1)) = min (A.df l j) (S.deep l (l - 1))) ∧ (S.nl ≤ l + 1 ∨ S.lev l (l + 1) < A.rp l j ∨ min v (S.deep l (l + 1)) = min (A.df l j) (S.deep l (l + 1)))) then i32 1 else i32 0, M) := by
    rw [t71]
    by_cases q : v ≠ A.df l j ∧ needS S l (A.rp l j) ≤ v ∧ (j + 1 < A.sz l → needS S l (A.rp l (j + 1)) ≤ v)
    · subst hP
      have hq : ¬ ¬ (v ≠ A.df l j ∧ needS S l (A.rp l j) ≤ v ∧ (j + 1 < A.sz l → needS S l (A.rp l (j + 1)) ≤ v)) := fun z => z q
      simp only [hq, false_and, or_false]
      by_cases z : harmDB S A l j v = true
      · rw [if_pos z, if_pos (hR.mp z).2]
      · rw [if_neg z, if_neg (fun z2 => z (hR.mpr ⟨q, z2⟩))]
    · subst hP
      simp only [hR, q, false_and, not_false_eq_true, true_and, false_or]
  clear t71 hP
  by_cases d1 : v = A.df l j
  · have hb : harmDB S A l j v = false := by
      cases h : harmDB S A l j v
      · rfl
      · exact absurd d1 (hR.mp h).1.1
    rw [hb]
    simp (disch := omega) only [↓reduceIte, add_i0, cast_add1, cast_sub1, toNat120, i32_lit, i32_neg, i32_add, i32_sub, i32_mul, i32_nat, i32_le, i32_lt, i32_eq, inB_i, Int.toNat_natCast, mI_sI_eq, mI_sI_ne, mR_sR_eq, mR_sR_ne, mI_sR, mR_sI, mK_sI, mN_sI, mn_sI, mJ_sI, mK_sR, mN_sR, mn_sR, mJ_sR, mI_wI, mR_wI, mK_wI, mN_wI, mn_wI, mJ_wI, ↓bnd_of, ↓bndX_r, ↓bndX_l, ↓ap_of, bnd_of, bndX_r, bndX_l, if_true, if_false, ite_true, ite_false, not_true_eq_false, not_false_eq_true, Nat.reduceAdd, Nat.reduceMul, Nat.reduceEqDiff, Int.reduceToNat, Int.reduceNeg, Ilt_t, Ilt_f, Ile_t, Ile_f, Ieq_t, Ieq_f, Nlt_t, Nlt_f, Nle_t, Nle_f, Neq_t, Neq_f, or_true, true_or, or_false, false_or, and_true, true_and, and_false, false_and, ne_eq, or_self, and_self, decide_true, decide_false, Bool.false_eq_true, f_X1_defIsHarmless, hL.o, hK, hcol, hc, a2, a3]
  by_cases d2 : needS S l (A.rp l j) ≤ v
  · by_cases d3 : j + 1 < A.sz l
    · by_cases d4 : needS S l (A.rp l (j + 1)) ≤ v
      · have tt : f_X1_defIsHarmless_71 7 (i32 l) (i32 j) (i32 v) M = some (if harmDB S A l j v = true then i32 1 else i32 0, M) := by
          rw [t71']
          have : ¬ ¬ (v ≠ A.df l j ∧ needS S l (A.rp l j) ≤ v ∧ (j + 1 < A.sz l → needS S l (A.rp l (j + 1)) ≤ v)) := fun q => q ⟨d1, d2, fun _ => d4⟩
          simp only [this, false_and, or_false]
        simp (disch := omega) only [↓reduceIte, add_i0, cast_add1, cast_sub1, toNat120, i32_lit, i32_neg, i32_add, i32_sub, i32_mul, i32_nat, i32_le, i32_lt, i32_eq, inB_i, Int.toNat_natCast, mI_sI_eq, mI_sI_ne, mR_sR_eq, mR_sR_ne, mI_sR, mR_sI, mK_sI, mN_sI, mn_sI, mJ_sI, mK_sR, mN_sR, mn_sR, mJ_sR, mI_wI, mR_wI, mK_wI, mN_wI, mn_wI, mJ_wI, ↓bnd_of, ↓bndX_r, ↓bndX_l, ↓ap_of, bnd_of, bndX_r, bndX_l, if_true, if_false, ite_true, ite_false, not_true_eq_false, not_false_eq_true, Nat.reduceAdd, Nat.reduceMul, Nat.reduceEqDiff, Int.reduceToNat, Int.reduceNeg, Ilt_t, Ilt_f, Ile_t, Ile_f, Ieq_t, Ieq_f, Nlt_t, Nlt_f, Nle_t, Nle_f, Neq_t, Neq_f, or_true, true_or, or_false, false_or, and_true, true_and, and_false, false_and, ne_eq, or_self, and_self, decide_true, decide_false, Bool.false_eq_true, f_X1_defIsHarmless, hL.o, hK, hcol, hc, a1, a2, a3, hn, hn2, tt]
      · have hb : harmDB S A l j v = false := by
          cases h : harmDB S A l j v
          · rfl
          · exact absurd ((hR.mp h).1.2.2 d3) d4
        rw [hb]
        simp (disch := omega) only [↓reduceIte, add_i0, cast_add1, cast_sub1, toNat120, i32_lit, i32_neg, i32_add, i32_sub, i32_mul, i32_nat, i32_le, i32_lt, i32_eq, inB_i, Int.toNat_natCast, mI_sI_eq, mI_sI_ne, mR_sR_eq, mR_sR_ne, mI_sR, mR_sI, mK_sI, mN_sI, mn_sI, mJ_sI, mK_sR, mN_sR, mn_sR, mJ_sR, mI_wI, mR_wI, mK_wI, mN_wI, mn_wI, mJ_wI, ↓bnd_of, ↓bndX_r, ↓bndX_l, ↓ap_of, bnd_of, bndX_r, bndX_l, if_true, if_false, ite_true, ite_false, not_true_eq_false, not_false_eq_true, Nat.reduceAdd, Nat.reduceMul, Nat.reduceEqDiff, Int.reduceToNat, Int.reduceNeg, Ilt_t, Ilt_f, Ile_t, Ile_f, Ieq_t, Ieq_f, Nlt_t, Nlt_f, Nle_t, Nle_f, Neq_t, Neq_f, or_true, true_or, or_false, false_or, and_true, true_and, and_false, false_and, ne_eq, or_self, and_self, decide_true, decide_false, Bool.false_eq_true, f_X1_defIsHarmless, hL.o, hK, hcol, hc, a1, a2, a3, hn, hn2]
    · have tt : f_X1_defIsHarmless_71 7 (i32 l) (i32 j) (i32 v) M = some (if harmDB S A l j v = true then i32 1 else i32 0, M) := by
        rw [t71']
        have : ¬ ¬ (v ≠ A.df l j ∧ needS S l (A.rp l j) ≤ v ∧ (j + 1 < A.sz l → needS S l (A.rp l (j + 1)) ≤ v)) := fun q => q ⟨d1, d2, fun q => absurd q d3⟩
        simp only [this, false_and, or_false]
      simp (disch := omega) only [↓reduceIte, add_i0, cast_add1, cast_sub1, toNat120, i32_lit, i32_neg, i32_add, i32_sub, i32_mul, i32_nat, i32_le, i32_lt, i32_eq, inB_i, Int.toNat_natCast, mI_sI_eq, mI_sI_ne, mR_sR_eq, mR_sR_ne, mI_sR, mR_sI, mK_sI, mN_sI, mn_sI, mJ_sI, mK_sR, mN_sR, mn_sR, mJ_sR, mI_wI, mR_wI, mK_wI, mN_wI, mn_wI, mJ_wI, ↓bnd_of, ↓bndX_r, ↓bndX_l, ↓ap_of, bnd_of, bndX_r, bndX_l, if_true, if_false, ite_true, ite_false, not_true_eq_false, not_false_eq_true, Nat.reduceAdd, Nat.reduceMul, Nat.reduceEqDiff, Int.reduceToNat, Int.reduceNeg, Ilt_t, Ilt_f, Ile_t, Ile_f, Ieq_t, Ieq_f, Nlt_t, Nlt_f, Nle_t, Nle_f, Neq_t, Neq_f, or_true, true_or, or_false, false_or, and_true, true_and, and_false, false_and, ne_eq, or_self, and_self, decide_true, decide_false, Bool.false_eq_true, f_X1_defIsHarmless, hL.o, hK, hcol, hc, a1, a2, a3, hn, tt]
  · have hb : harmDB S A l j v = false := by
      cases h : harmDB S A l j v
      · rfl
      · exact absurd (hR.mp h).1.2.1 d2
    rw [hb]
    simp (disch := omega) only [↓reduceIte, add_i0, cast_add1, cast_sub1, toNat120, i32_lit, i32_neg, i32_add, i32_sub, i32_mul, i32_nat, i32_le, i32_lt, i32_eq, inB_i, Int.toNat_natCast, mI_sI_eq, mI_sI_ne, mR_sR_eq, mR_sR_ne, mI_sR, mR_sI, mK_sI, mN_sI, mn_sI, mJ_sI, mK_sR, mN_sR, mn_sR, mJ_sR, mI_wI, mR_wI, mK_wI, mN_wI, mn_wI, mJ_wI, ↓bnd_of, ↓bndX_r, ↓bndX_l, ↓ap_of, bnd_of, bndX_r, bndX_l, if_true, if_false, ite_true, ite_false, not_true_eq_false, not_false_eq_true, Nat.reduceAdd, Nat.reduceMul, Nat.reduceEqDiff, Int.reduceToNat, Int.reduceNeg, Ilt_t, Ilt_f, Ile_t, Ile_f, Ieq_t, Ieq_f, Nlt_t, Nlt_f, Nle_t, Nle_f, Neq_t, Neq_f, or_true, true_or, or_false, false_or, and_true, true_and, and_false, false_and, ne_eq, or_self, and_self, decide_true, decide_false, Bool.false_eq_true, f_X1_defIsHarmless, hL.o, hK, hcol, hc, a1, a2, a3, hn]
end
