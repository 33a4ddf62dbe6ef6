/-! HARMLESS in the class: the count -/
def hst (b : Bool) (c : Int) (st : Int × Int) : Int × Int := if b = true then (st.1 + 1, if st.2 = -1 then c else st.2) else st
def hR (S : Sc) (A : St) (l j : Nat) : Nat → Nat → Int × Int → Int × Int := lp (fun v st => hst (harmRB S A l j v) ((l : Int) * 10000 + (j : Int) * 20 + v) st)
def hD (S : Sc) (A : St) (l j : Nat) : Nat → Nat → Int × Int → Int × Int := lp (fun v st => hst (harmDB S A l j v) ((l : Int) * 10000 + (j : Int) * 20 + 10 + v) st)
def hE (S : Sc) (A : St) (l : Nat) : Nat → Nat → Int × Int → Int × Int := lp (fun j st => hD S A l j (S.sd (S.fo l) + 1).toNat 0 (hR S A l j (S.sr (S.fo l) + 1).toNat 0 st))
def hA (S : Sc) (A : St) : Nat → Nat → Int × Int → Int × Int := lp (fun l st => hE S A l (A.sz l) 0 st)
def harm (S : Sc) (A : St) : Int × Int := if (chk S A).1 = 0 then hA S A S.nl 0 (0, -1) else (0, -1)
/-- the class's count so far -/
def WSt (M : Mem) (st : Int × Int) : Prop := mI M 7 3 = i32 st.1 ∧ mI M 7 4 = i32 st.2 ∧ -1 ≤ st.2 ∧ st.2 ≤ 100000
section
variable {M : Mem} {s : Nat} {S : Sc} {A : St}
theorem X1_weighOne (hV : CV M s S A) (hK : ChkAt M s) {st : Int × Int} (hw : WSt M st) (b : Bool) (c : Int) (c0 : 0 ≤ c) (c1 : c ≤ 100000) : ∃ M', f_X1_weighOne 7 (if b = true then i32 1 else i32 0) (i32 c) M = some ((), M') ∧ Scr M M' ∧ ChkAt M' s ∧ WSt M' (hst b c st) := by
  have hL := hV.1
  obtain ⟨w1, w2, w3, w4⟩ := hw
  cases b with
  | false =>
    refine ⟨M, ?_, Scr.rf M, hK, w1, w2, w3, w4⟩
    simp (disch := omega) only [↓reduceIte, add_i0, cast_add1, cast_sub1, toNat120, i32_lit, i32_neg, i32_add, i32_sub, i32_mul, i32_nat, i32_le, i32_lt, i32_eq, inB_i, Int.toNat_natCast, mI_sI_eq, mI_sI_ne, mR_sR_eq, mR_sR_ne, mI_sR, mR_sI, mK_sI, mN_sI, mn_sI, mJ_sI, mK_sR, mN_sR, mn_sR, mJ_sR, mI_wI, mR_wI, mK_wI, mN_wI, mn_wI, mJ_wI, ↓bnd_of, ↓bndX_r, ↓bndX_l, ↓ap_of, bnd_of, bndX_r, bndX_l, if_true, if_false, ite_true, ite_false, not_true_eq_false, not_false_eq_true, Nat.reduceAdd, Nat.reduceMul, Nat.reduceEqDiff, Int.reduceToNat, Int.reduceNeg, Ilt_t, Ilt_f, Ile_t, Ile_f, Ieq_t, Ieq_f, Nlt_t, Nlt_f, Nle_t, Nle_f, Neq_t, Neq_f, or_true, true_or, or_false, false_or, and_true, true_and, and_false, false_and, ne_eq, or_self, and_self, decide_true, decide_false, Bool.false_eq_true, f_X1_weighOne]
  | true =>
    by_cases d : st.2 = -1
    · refine ⟨sI (sI M 7 3 (i32 (st.1 + 1))) 7 4 (i32 c), ?_, ((Scr.rf M).sI (by unfold ScI; omega)).sI (by unfold ScI; omega), hK, ?_⟩
      · simp (disch := omega) only [↓reduceIte, add_i0, cast_add1, cast_sub1, toNat120, i32_lit, i32_neg, i32_add, i32_sub, i32_mul, i32_nat, i32_le, i32_lt, i32_eq, inB_i, Int.toNat_natCast, mI_sI_eq, mI_sI_ne, mR_sR_eq, mR_sR_ne, mI_sR, mR_sI, mK_sI, mN_sI, mn_sI, mJ_sI, mK_sR, mN_sR, mn_sR, mJ_sR, mI_wI, mR_wI, mK_wI, mN_wI, mn_wI, mJ_wI, ↓bnd_of, ↓bndX_r, ↓bndX_l, ↓ap_of, bnd_of, bndX_r, bndX_l, if_true, if_false, ite_true, ite_false, not_true_eq_false, not_false_eq_true, Nat.reduceAdd, Nat.reduceMul, Nat.reduceEqDiff, Int.reduceToNat, Int.reduceNeg, Ilt_t, Ilt_f, Ile_t, Ile_f, Ieq_t, Ieq_f, Nlt_t, Nlt_f, Nle_t, Nle_f, Neq_t, Neq_f, or_true, true_or, or_false, false_or, and_true, true_and, and_false, false_and, ne_eq, or_self, and_self, decide_true, decide_false, Bool.false_eq_true, f_X1_weighOne, hL.o, w1, w2, d]
      · unfold hst
        simp only [d, if_true]
        exact ⟨by simp (disch := omega) only [↓reduceIte, add_i0, cast_add1, cast_sub1, toNat120, i32_lit, i32_neg, i32_add, i32_sub, i32_mul, i32_nat, i32_le, i32_lt, i32_eq, inB_i, Int.toNat_natCast, mI_sI_eq, mI_sI_ne, mR_sR_eq, mR_sR_ne, mI_sR, mR_sI, mK_sI, mN_sI, mn_sI, mJ_sI, mK_sR, mN_sR, mn_sR, mJ_sR, mI_wI, mR_wI, mK_wI, mN_wI, mn_wI, mJ_wI, ↓bnd_of, ↓bndX_r, ↓bndX_l, ↓ap_of, bnd_of, bndX_r, bndX_l, if_true, if_false, ite_true, ite_false, not_true_eq_false, not_false_eq_true, Nat.reduceAdd, Nat.reduceMul, Nat.reduceEqDiff, Int.reduceToNat, Int.reduceNeg, Ilt_t, Ilt_f, Ile_t, Ile_f, Ieq_t, Ieq_f, Nlt_t, Nlt_f, Nle_t, Nle_f, Neq_t, Neq_f, or_true, true_or, or_false, false_or, and_true, true_and, and_false, false_and, ne_eq, or_self, and_self, decide_true, decide_false, Bool.false_eq_true], by simp (disch := omega) only [↓reduceIte, add_i0, cast_add1, cast_sub1, toNat120, i32_lit, i32_neg, i32_add, i32_sub, i32_mul, i32_nat, i32_le, i32_lt, i32_eq, inB_i, Int.toNat_natCast, mI_sI_eq, mI_sI_ne, mR_sR_eq, mR_sR_ne, mI_sR, mR_sI, mK_sI, mN_sI, mn_sI, mJ_sI, mK_sR, mN_sR, mn_sR, mJ_sR, mI_wI, mR_wI, mK_wI, mN_wI, mn_wI, mJ_wI, ↓bnd_of, ↓bndX_r, ↓bndX_l, ↓ap_of, bnd_of, bndX_r, bndX_l, if_true, if_false, ite_true, ite_false, not_true_eq_false, not_false_eq_true, Nat.reduceAdd, Nat.reduceMul, Nat.reduceEqDiff, Int.reduceToNat, Int.reduceNeg, Ilt_t, Ilt_f, Ile_t, Ile_f, Ieq_t, Ieq_f, Nlt_t, Nlt_f, Nle_t, Nle_f, Neq_t, Neq_f, or_true, true_or, or_false, false_or, and_true, true_and, and_false, false_and, ne_eq, or_self, and_self, decide_true, decide_false, Bool.false_eq_true], by simp only []; omega, by simp only []; omega⟩
    · refine ⟨sI M 7 3 (i32 (st.1 + 1)), ?_, (Scr.rf M).sI (by unfold ScI; omega), hK, ?_⟩
      · simp (disch := omega) only [↓reduceIte, add_i0, cast_add1, cast_sub1, toNat120, i32_lit, i32_neg, i32_add, i32_sub, i32_mul, i32_nat, i32_le, i32_lt, i32_eq, inB_i, Int.toNat_natCast, mI_sI_eq, mI_sI_ne, mR_sR_eq, mR_sR_ne, mI_sR, mR_sI, mK_sI, mN_sI, mn_sI, mJ_sI, mK_sR, mN_sR, mn_sR, mJ_sR, mI_wI, mR_wI, mK_wI, mN_wI, mn_wI, mJ_wI, ↓bnd_of, ↓bndX_r, ↓bndX_l, ↓ap_of, bnd_of, bndX_r, bndX_l, if_true, if_false, ite_true, ite_false, not_true_eq_false, not_false_eq_true, Nat.reduceAdd, Nat.reduceMul, Nat.reduceEqDiff, Int.reduceToNat, Int.reduceNeg, Ilt_t, Ilt_f, Ile_t, Ile_f, Ieq_t, Ieq_f, Nlt_t, Nlt_f, Nle_t, Nle_f, Neq_t, Neq_f, or_true, true_or, or_false, false_or, and_true, true_and, and_false, false_and, ne_eq, or_self, and_self, decide_true, decide_false, Bool.false_eq_true, f_X1_weighOne, hL.o, w1, w2]
      · unfold hst
        simp only [d, if_true, if_false]
        exact ⟨by simp (disch := omega) only [↓reduceIte, add_i0, cast_add1, cast_sub1, toNat120, i32_lit, i32_neg, i32_add, i32_sub, i32_mul, i32_nat, i32_le, i32_lt, i32_eq, inB_i, Int.toNat_natCast, mI_sI_eq, mI_sI_ne, mR_sR_eq, mR_sR_ne, mI_sR, mR_sI, mK_sI, mN_sI, mn_sI, mJ_sI, mK_sR, mN_sR, mn_sR, mJ_sR, mI_wI, mR_wI, mK_wI, mN_wI, mn_wI, mJ_wI, ↓bnd_of, ↓bndX_r, ↓bndX_l, ↓ap_of, bnd_of, bndX_r, bndX_l, if_true, if_false, ite_true, ite_false, not_true_eq_false, not_false_eq_true, Nat.reduceAdd, Nat.reduceMul, Nat.reduceEqDiff, Int.reduceToNat, Int.reduceNeg, Ilt_t, Ilt_f, Ile_t, Ile_f, Ieq_t, Ieq_f, Nlt_t, Nlt_f, Nle_t, Nle_f, Neq_t, Neq_f, or_true, true_or, or_false, false_or, and_true, true_and, and_false, false_and, ne_eq, or_self, and_self, decide_true, decide_false, Bool.false_eq_true], by simp (disch := omega) only [↓reduceIte, add_i0, cast_add1, cast_sub1, toNat120, i32_lit, i32_neg, i32_add, i32_sub, i32_mul, i32_nat, i32_le, i32_lt, i32_eq, inB_i, Int.toNat_natCast, mI_sI_eq, mI_sI_ne, mR_sR_eq, mR_sR_ne, mI_sR, mR_sI, mK_sI, mN_sI, mn_sI, mJ_sI, mK_sR, mN_sR, mn_sR, mJ_sR, mI_wI, mR_wI, mK_wI, mN_wI, mn_wI, mJ_wI, ↓bnd_of, ↓bndX_r, ↓bndX_l, ↓ap_of, bnd_of, bndX_r, bndX_l, if_true, if_false, ite_true, ite_false, not_true_eq_false, not_false_eq_true, Nat.reduceAdd, Nat.reduceMul, Nat.reduceEqDiff, Int.reduceToNat, Int.reduceNeg, Ilt_t, Ilt_f, Ile_t, Ile_f, Ieq_t, Ieq_f, Nlt_t, Nlt_f, Nle_t, Nle_f, Neq_t, Neq_f, or_true, true_or, or_false, false_or, and_true, true_and, and_false, false_and, ne_eq, or_self, and_self, decide_true, decide_false, Bool.false_eq_true, w2], w3, w4⟩
theorem X1_weighD (hW : S.wf) (g20 : Nat → Int32 → Mem → Option (Unit × Mem)) (g43 : Nat → Int32 → Int32 → Int32 → Mem → Option (Unit × Mem)) {l j : Nat} (hl : l < S.nl) (hj : j < A.sz l) : ∀ (k v n : Nat) (M : Mem) (st : Int × Int), (v + k : Int) = S.sd (S.fo l) + 1 → k < n → CV M s S A → ChkAt M s → WSt M st → ∃ M', f_X1_weigh_110 g20 g43 n 7 (i32 l) (i32 (S.fo l)) (i32 j) (i32 v) M = g43 7 (i32 l) (i32 (S.fo l)) (i32 (j + 1 : Nat)) M' ∧ Scr M M' ∧ ChkAt M' s ∧ WSt M' (hD S A l j k v st) := by
  have hS := hW.1
  have hfo := Sc.fo_lt hS hl
  have b4 := Sc.sd_b hS (S.fo l)
  intro k
  induction k with
  | zero =>
    intro v n M st hv hn hV hK hw
    obtain ⟨n, rfl⟩ : ∃ m, n = m + 1 := ⟨n - 1, by omega⟩
    have hL := hV.1
    have hs := hV.2.2.1
    have cd := hV.2.2.2.1.2.2.2.2.2.1
    have bz := St.b hV.2.2.2.2.1.1 l j
    refine ⟨M, ?_, Scr.rf M, hK, hw⟩
    simp (disch := omega) only [↓reduceIte, add_i0, cast_add1, cast_sub1, toNat120, i32_lit, i32_neg, i32_add, i32_sub, i32_mul, i32_nat, i32_le, i32_lt, i32_eq, inB_i, Int.toNat_natCast, mI_sI_eq, mI_sI_ne, mR_sR_eq, mR_sR_ne, mI_sR, mR_sI, mK_sI, mN_sI, mn_sI, mJ_sI, mK_sR, mN_sR, mn_sR, mJ_sR, mI_wI, mR_wI, mK_wI, mN_wI, mn_wI, mJ_wI, ↓bnd_of, ↓bndX_r, ↓bndX_l, ↓ap_of, bnd_of, bndX_r, bndX_l, if_true, if_false, ite_true, ite_false, not_true_eq_false, not_false_eq_true, Nat.reduceAdd, Nat.reduceMul, Nat.reduceEqDiff, Int.reduceToNat, Int.reduceNeg, Ilt_t, Ilt_f, Ile_t, Ile_f, Ieq_t, Ieq_f, Nlt_t, Nlt_f, Nle_t, Nle_f, Neq_t, Neq_f, or_true, true_or, or_false, false_or, and_true, true_and, and_false, false_and, ne_eq, or_self, and_self, decide_true, decide_false, Bool.false_eq_true, f_X1_weigh_110, hL.o, hK, hs.o, cd]
  | succ k ih =>
    intro v n M st hv hn hV hK hw
    obtain ⟨n, rfl⟩ : ∃ m, n = m + 1 := ⟨n - 1, by omega⟩
    have hL := hV.1
    have hs := hV.2.2.1
    have cd := hV.2.2.2.1.2.2.2.2.2.1
    have bz := St.b hV.2.2.2.2.1.1 l j
    have e1 := X1_defIsHarmless hW hV hK hl hj v (by omega) (by omega)
    obtain ⟨M1, e2, g, hK1, hw1⟩ := X1_weighOne hV hK hw (harmDB S A l j v) ((l : Int) * 10000 + (j : Int) * 20 + 10 + v) (by omega) (by omega)
    obtain ⟨M2, e3, g2, hK2, hw2⟩ := ih (v + 1) n M1 _ (by omega) (by omega) (hV.scr g) hK1 hw1
    refine ⟨M2, ?_, g.tr g2, hK2, hw2⟩
    rw [← e3]
    simp (disch := omega) only [↓reduceIte, add_i0, cast_add1, cast_sub1, toNat120, i32_lit, i32_neg, i32_add, i32_sub, i32_mul, i32_nat, i32_le, i32_lt, i32_eq, inB_i, Int.toNat_natCast, mI_sI_eq, mI_sI_ne, mR_sR_eq, mR_sR_ne, mI_sR, mR_sI, mK_sI, mN_sI, mn_sI, mJ_sI, mK_sR, mN_sR, mn_sR, mJ_sR, mI_wI, mR_wI, mK_wI, mN_wI, mn_wI, mJ_wI, ↓bnd_of, ↓bndX_r, ↓bndX_l, ↓ap_of, bnd_of, bndX_r, bndX_l, if_true, if_false, ite_true, ite_false, not_true_eq_false, not_false_eq_true, Nat.reduceAdd, Nat.reduceMul, Nat.reduceEqDiff, Int.reduceToNat, Int.reduceNeg, Ilt_t, Ilt_f, Ile_t, Ile_f, Ieq_t, Ieq_f, Nlt_t, Nlt_f, Nle_t, Nle_f, Neq_t, Neq_f, or_true, true_or, or_false, false_or, and_true, true_and, and_false, false_and, ne_eq, or_self, and_self, decide_true, decide_false, Bool.false_eq_true, f_X1_weigh_110, hL.o, hK, hs.o, cd, ↓bx e1, e2]
theorem X1_weighR (hW : S.wf) (g20 : Nat → Int32 → Mem → Option (Unit × Mem)) (g43 : Nat → Int32 → Int32 → Int32 → Mem → Option (Unit × Mem)) {l j : Nat} (hl : l < S.nl) (hj : j < A.sz l) : ∀ (k v n : Nat) (M : Mem) (st : Int × Int), (v + k : Int) = S.sr (S.fo l) + 1 → k < n → CV M s S A → ChkAt M s → WSt M st → ∃ M', f_X1_weigh_62 g20 g43 n 7 (i32 l) (i32 (S.fo l)) (i32 j) (i32 v) M = f_X1_weigh_110 g20 g43 FUEL 7 (i32 l) (i32 (S.fo l)) (i32 j) (i32 (0 : Nat)) M' ∧ Scr M M' ∧ ChkAt M' s ∧ WSt M' (hR S A l j k v st) := by
  have hS := hW.1
  have hfo := Sc.fo_lt hS hl
  have b4 := Sc.sr_b hS (S.fo l)
  intro k
  induction k with
  | zero =>
    intro v n M st hv hn hV hK hw
    obtain ⟨n, rfl⟩ : ∃ m, n = m + 1 := ⟨n - 1, by omega⟩
    have hL := hV.1
    have hs := hV.2.2.1
    have cr := hV.2.2.2.1.2.2.2.2.2.2.1
    have bz := St.b hV.2.2.2.2.1.1 l j
    refine ⟨M, ?_, Scr.rf M, hK, hw⟩
    simp (disch := omega) only [↓reduceIte, add_i0, cast_add1, cast_sub1, toNat120, i32_lit, i32_neg, i32_add, i32_sub, i32_mul, i32_nat, i32_le, i32_lt, i32_eq, inB_i, Int.toNat_natCast, mI_sI_eq, mI_sI_ne, mR_sR_eq, mR_sR_ne, mI_sR, mR_sI, mK_sI, mN_sI, mn_sI, mJ_sI, mK_sR, mN_sR, mn_sR, mJ_sR, mI_wI, mR_wI, mK_wI, mN_wI, mn_wI, mJ_wI, ↓bnd_of, ↓bndX_r, ↓bndX_l, ↓ap_of, bnd_of, bndX_r, bndX_l, if_true, if_false, ite_true, ite_false, not_true_eq_false, not_false_eq_true, Nat.reduceAdd, Nat.reduceMul, Nat.reduceEqDiff, Int.reduceToNat, Int.reduceNeg, Ilt_t, Ilt_f, Ile_t, Ile_f, Ieq_t, Ieq_f, Nlt_t, Nlt_f, Nle_t, Nle_f, Neq_t, Neq_f, or_true, true_or, or_false, false_or, and_true, true_and, and_false, false_and, ne_eq, or_self, and_self, decide_true, decide_false, Bool.false_eq_true, f_X1_weigh_62, hL.o, hK, hs.o, cr]
    rfl
  | succ k ih =>
    intro v n M st hv hn hV hK hw
    obtain ⟨n, rfl⟩ : ∃ m, n = m + 1 := ⟨n - 1, by omega⟩
    have hL := hV.1
    have hs := hV.2.2.1
    have cr := hV.2.2.2.1.2.2.2.2.2.2.1
    have bz := St.b hV.2.2.2.2.1.1 l j
    have e1 := X1_repIsHarmless hW hV hK hl hj v (by omega) (by omega)
    obtain ⟨M1, e2, g, hK1, hw1⟩ := X1_weighOne hV hK hw (harmRB S A l j v) ((l : Int) * 10000 + (j : Int) * 20 + v) (by omega) (by omega)
    obtain ⟨M2, e3, g2, hK2, hw2⟩ := ih (v + 1) n M1 _ (by omega) (by omega) (hV.scr g) hK1 hw1
    refine ⟨M2, ?_, g.tr g2, hK2, hw2⟩
    rw [← e3]
    simp (disch := omega) only [↓reduceIte, add_i0, cast_add1, cast_sub1, toNat120, i32_lit, i32_neg, i32_add, i32_sub, i32_mul, i32_nat, i32_le, i32_lt, i32_eq, inB_i, Int.toNat_natCast, mI_sI_eq, mI_sI_ne, mR_sR_eq, mR_sR_ne, mI_sR, mR_sI, mK_sI, mN_sI, mn_sI, mJ_sI, mK_sR, mN_sR, mn_sR, mJ_sR, mI_wI, mR_wI, mK_wI, mN_wI, mn_wI, mJ_wI, ↓bnd_of, ↓bndX_r, ↓bndX_l, ↓ap_of, bnd_of, bndX_r, bndX_l, if_true, if_false, ite_true, ite_false, not_true_eq_false, not_false_eq_true, Nat.reduceAdd, Nat.reduceMul, Nat.reduceEqDiff, Int.reduceToNat, Int.reduceNeg, Ilt_t, Ilt_f, Ile_t, Ile_f, Ieq_t, Ieq_f, Nlt_t, Nlt_f, Nle_t, Nle_f, Neq_t, Neq_f, or_true, true_or, or_false, false_or, and_true, true_and, and_false, false_and, ne_eq, or_self, and_self, decide_true, decide_false, Bool.false_eq_true, f_X1_weigh_62, hL.o, hK, hs.o, cr, ↓bx e1, e2]
theorem X1_weighE (hW : S.wf) (g20 : Nat → Int32 → Mem → Option (Unit × Mem)) {l : Nat} (hl : l < S.nl) : ∀ (k j n : Nat) (M : Mem) (st : Int × Int), j + k = A.sz l → k < n → CV M s S A → ChkAt M s → WSt M st → ∃ M', f_X1_weigh_43 g20 n 7 (i32 l) (i32 (S.fo l)) (i32 j) M = g20 7 (i32 (l + 1 : Nat)) M' ∧ Scr M M' ∧ ChkAt M' s ∧ WSt M' (hE S A l k j st) := by
  have hS := hW.1
  have hnl := hS.2.1
  have hfo := Sc.fo_lt hS hl
  have b3 := Sc.sr_b hS (S.fo l)
  have b4 := Sc.sd_b hS (S.fo l)
  intro k
  induction k with
  | zero =>
    intro j n M st hj hn hV hK hw
    obtain ⟨n, rfl⟩ : ∃ m, n = m + 1 := ⟨n - 1, by omega⟩
    obtain ⟨hL, hc, hs, hC, hA, hrc, h7, h8, h9⟩ := id hV
    have hcol := hc.2.2.2.2.2.2.2.2.2.2
    simp only [Nat.reduceSub] at hcol
    have a1 := hA.2.1
    have bz := St.b hA.1 l 0
    refine ⟨M, ?_, Scr.rf M, hK, hw⟩
    simp (disch := omega) only [↓reduceIte, add_i0, cast_add1, cast_sub1, toNat120, i32_lit, i32_neg, i32_add, i32_sub, i32_mul, i32_nat, i32_le, i32_lt, i32_eq, inB_i, Int.toNat_natCast, mI_sI_eq, mI_sI_ne, mR_sR_eq, mR_sR_ne, mI_sR, mR_sI, mK_sI, mN_sI, mn_sI, mJ_sI, mK_sR, mN_sR, mn_sR, mJ_sR, mI_wI, mR_wI, mK_wI, mN_wI, mn_wI, mJ_wI, ↓bnd_of, ↓bndX_r, ↓bndX_l, ↓ap_of, bnd_of, bndX_r, bndX_l, if_true, if_false, ite_true, ite_false, not_true_eq_false, not_false_eq_true, Nat.reduceAdd, Nat.reduceMul, Nat.reduceEqDiff, Int.reduceToNat, Int.reduceNeg, Ilt_t, Ilt_f, Ile_t, Ile_f, Ieq_t, Ieq_f, Nlt_t, Nlt_f, Nle_t, Nle_f, Neq_t, Neq_f, or_true, true_or, or_false, false_or, and_true, true_and, and_false, false_and, ne_eq, or_self, and_self, decide_true, decide_false, Bool.false_eq_true, f_X1_weigh_43, hL.o, hK, hcol, hc, a1]
  | succ k ih =>
    intro j n M st hj hn hV hK hw
    obtain ⟨n, rfl⟩ : ∃ m, n = m + 1 := ⟨n - 1, by omega⟩
    obtain ⟨M1, e1, g1, hK1, hw1⟩ := X1_weighR hW g20 (f_X1_weigh_43 g20 n) hl (show j < A.sz l by omega) (S.sr (S.fo l) + 1).toNat 0 FUEL M st (by omega) (by unfold FUEL; omega) hV hK hw
    obtain ⟨M2, e2, g2, hK2, hw2⟩ := X1_weighD hW g20 (f_X1_weigh_43 g20 n) hl (show j < A.sz l by omega) (S.sd (S.fo l) + 1).toNat 0 FUEL M1 _ (by omega) (by unfold FUEL; omega) (hV.scr g1) hK1 hw1
    obtain ⟨M3, e3, g3, hK3, hw3⟩ := ih (j + 1) n M2 _ (by omega) (by omega) (hV.scr (g1.tr g2)) hK2 hw2
    refine ⟨M3, ?_, g1.tr (g2.tr g3), hK3, hw3⟩
    rw [← e3, ← e2, ← e1]
    obtain ⟨hL, hc, hs, hC, hA, hrc, h7, h8, h9⟩ := hV
    have hcol := hc.2.2.2.2.2.2.2.2.2.2
    simp only [Nat.reduceSub] at hcol
    have a1 := hA.2.1
    have bz := St.b hA.1 l 0
    simp (disch := omega) only [↓reduceIte, add_i0, cast_add1, cast_sub1, toNat120, i32_lit, i32_neg, i32_add, i32_sub, i32_mul, i32_nat, i32_le, i32_lt, i32_eq, inB_i, Int.toNat_natCast, mI_sI_eq, mI_sI_ne, mR_sR_eq, mR_sR_ne, mI_sR, mR_sI, mK_sI, mN_sI, mn_sI, mJ_sI, mK_sR, mN_sR, mn_sR, mJ_sR, mI_wI, mR_wI, mK_wI, mN_wI, mn_wI, mJ_wI, ↓bnd_of, ↓bndX_r, ↓bndX_l, ↓ap_of, bnd_of, bndX_r, bndX_l, if_true, if_false, ite_true, ite_false, not_true_eq_false, not_false_eq_true, Nat.reduceAdd, Nat.reduceMul, Nat.reduceEqDiff, Int.reduceToNat, Int.reduceNeg, Ilt_t, Ilt_f, Ile_t, Ile_f, Ieq_t, Ieq_f, Nlt_t, Nlt_f, Nle_t, Nle_f, Neq_t, Neq_f, or_true, true_or, or_false, false_or, and_true, true_and, and_false, false_and, ne_eq, or_self, and_self, decide_true, decide_false, Bool.false_eq_true, f_X1_weigh_43, hL.o, hK, hcol, hc, a1]
    rfl
theorem X1_weighA (hW : S.wf) : ∀ (k l n : Nat) (M : Mem) (st : Int × Int), l + k = S.nl → k < n → CV M s S A → ChkAt M s → WSt M st → ∃ M', f_X1_weigh_20 n 7 (i32 l) M = some ((), M') ∧ Scr M M' ∧ ChkAt M' s ∧ WSt M' (hA S A k l st) := by
  have hS := hW.1
  have hnl := hS.2.1
  intro k
  induction k with
  | zero =>
    intro l n M st hj hn hV hK hw
    obtain ⟨n, rfl⟩ : ∃ m, n = m + 1 := ⟨n - 1, by omega⟩
    have hL := hV.1
    have hs := hV.2.2.1
    have c1 := hV.2.2.2.1.2.1
    refine ⟨M, ?_, Scr.rf M, hK, hw⟩
    simp (disch := omega) only [↓reduceIte, add_i0, cast_add1, cast_sub1, toNat120, i32_lit, i32_neg, i32_add, i32_sub, i32_mul, i32_nat, i32_le, i32_lt, i32_eq, inB_i, Int.toNat_natCast, mI_sI_eq, mI_sI_ne, mR_sR_eq, mR_sR_ne, mI_sR, mR_sI, mK_sI, mN_sI, mn_sI, mJ_sI, mK_sR, mN_sR, mn_sR, mJ_sR, mI_wI, mR_wI, mK_wI, mN_wI, mn_wI, mJ_wI, ↓bnd_of, ↓bndX_r, ↓bndX_l, ↓ap_of, bnd_of, bndX_r, bndX_l, if_true, if_false, ite_true, ite_false, not_true_eq_false, not_false_eq_true, Nat.reduceAdd, Nat.reduceMul, Nat.reduceEqDiff, Int.reduceToNat, Int.reduceNeg, Ilt_t, Ilt_f, Ile_t, Ile_f, Ieq_t, Ieq_f, Nlt_t, Nlt_f, Nle_t, Nle_f, Neq_t, Neq_f, or_true, true_or, or_false, false_or, and_true, true_and, and_false, false_and, ne_eq, or_self, and_self, decide_true, decide_false, Bool.false_eq_true, f_X1_weigh_20, hL.o, hK, hs.o, c1]
  | succ k ih =>
    intro l n M st hj hn hV hK hw
    obtain ⟨n, rfl⟩ : ∃ m, n = m + 1 := ⟨n - 1, by omega⟩
    have hL := hV.1
    have hs := hV.2.2.1
    have c1 := hV.2.2.2.1.2.1
    have cf := hV.2.2.2.1.2.2.2.2.2.2.2.2.2.2.2.2
    have bz := St.b hV.2.2.2.2.1.1 l 0
    obtain ⟨M1, e1, g1, hK1, hw1⟩ := X1_weighE hW (f_X1_weigh_20 n) (show l < S.nl by omega) (A.sz l) 0 FUEL M st (by omega) (by unfold FUEL; omega) hV hK hw
    obtain ⟨M2, e2, g2, hK2, hw2⟩ := ih (l + 1) n M1 _ (by omega) (by omega) (hV.scr g1) hK1 hw1
    refine ⟨M2, ?_, g1.tr g2, hK2, hw2⟩
    rw [← e2, ← e1]
    simp (disch := omega) only [↓reduceIte, add_i0, cast_add1, cast_sub1, toNat120, i32_lit, i32_neg, i32_add, i32_sub, i32_mul, i32_nat, i32_le, i32_lt, i32_eq, inB_i, Int.toNat_natCast, mI_sI_eq, mI_sI_ne, mR_sR_eq, mR_sR_ne, mI_sR, mR_sI, mK_sI, mN_sI, mn_sI, mJ_sI, mK_sR, mN_sR, mn_sR, mJ_sR, mI_wI, mR_wI, mK_wI, mN_wI, mn_wI, mJ_wI, ↓bnd_of, ↓bndX_r, ↓bndX_l, ↓ap_of, bnd_of, bndX_r, bndX_l, if_true, if_false, ite_true, ite_false, not_true_eq_false, not_false_eq_true, Nat.reduceAdd, Nat.reduceMul, Nat.reduceEqDiff, Int.reduceToNat, Int.reduceNeg, Ilt_t, Ilt_f, Ile_t, Ile_f, Ieq_t, Ieq_f, Nlt_t, Nlt_f, Nle_t, Nle_f, Neq_t, Neq_f, or_true, true_or, or_false, false_or, and_true, true_and, and_false, false_and, ne_eq, or_self, and_self, decide_true, decide_false, Bool.false_eq_true, f_X1_weigh_20, hL.o, hK, hs.o, c1, cf]
    rfl
/-- behind run: what is harmless -/
theorem X1_weigh (hW : S.wf) (hV : CV M s S A) (hK : ChkAt M s) (h0 : mI M 7 0 = i32 (chk S A).1) : ∃ M', f_X1_weigh 7 M = some ((), M') ∧ Scr M M' ∧ mI M' 7 3 = i32 (harm S A).1 ∧ mI M' 7 4 = i32 (harm S A).2 := by
  have hnl := hW.1.2.1
  have hb := chkF_b S A hV.2.2.2.2.1.1 S.nl 0
  have hb2 : 0 ≤ (chk S A).1 ∧ (chk S A).1 ≤ 5 := ⟨hb.1, hb.2.1⟩
  have hL := hV.1
  have g : Scr M (sI (sI M 7 3 (i32 0)) 7 4 (i32 (-1))) := ((Scr.rf M).sI (by unfold ScI; omega)).sI (by unfold ScI; omega)
  by_cases d : (chk S A).1 = 0
  · obtain ⟨M', h1, h2, h3, h4⟩ := X1_weighA hW S.nl 0 FUEL (sI (sI M 7 3 (i32 0)) 7 4 (i32 (-1))) (0, -1) (by omega) (by unfold FUEL; omega) (hV.scr g) hK ⟨by simp (disch := omega) only [↓reduceIte, add_i0, cast_add1, cast_sub1, toNat120, i32_lit, i32_neg, i32_add, i32_sub, i32_mul, i32_nat, i32_le, i32_lt, i32_eq, inB_i, Int.toNat_natCast, mI_sI_eq, mI_sI_ne, mR_sR_eq, mR_sR_ne, mI_sR, mR_sI, mK_sI, mN_sI, mn_sI, mJ_sI, mK_sR, mN_sR, mn_sR, mJ_sR, mI_wI, mR_wI, mK_wI, mN_wI, mn_wI, mJ_wI, ↓bnd_of, ↓bndX_r, ↓bndX_l, ↓ap_of, bnd_of, bndX_r, bndX_l, if_true, if_false, ite_true, ite_false, not_true_eq_false, not_false_eq_true, Nat.reduceAdd, Nat.reduceMul, Nat.reduceEqDiff, Int.reduceToNat, Int.reduceNeg, Ilt_t, Ilt_f, Ile_t, Ile_f, Ieq_t, Ieq_f, Nlt_t, Nlt_f, Nle_t, Nle_f, Neq_t, Neq_f, or_true, true_or, or_false, false_or, and_true, true_and, and_false, false_and, ne_eq, or_self, and_self, decide_true, decide_false, Bool.false_eq_true], by simp (disch := omega) only [↓reduceIte, add_i0, cast_add1, cast_sub1, toNat120, i32_lit, i32_neg, i32_add, i32_sub, i32_mul, i32_nat, i32_le, i32_lt, i32_eq, inB_i, Int.toNat_natCast, mI_sI_eq, mI_sI_ne, mR_sR_eq, mR_sR_ne, mI_sR, mR_sI, mK_sI, mN_sI, mn_sI, mJ_sI, mK_sR, mN_sR, mn_sR, mJ_sR, mI_wI, mR_wI, mK_wI, mN_wI, mn_wI, mJ_wI, ↓bnd_of, ↓bndX_r, ↓bndX_l, ↓ap_of, bnd_of, bndX_r, bndX_l, if_true, if_false, ite_true, ite_false, not_true_eq_false, not_false_eq_true, Nat.reduceAdd, Nat.reduceMul, Nat.reduceEqDiff, Int.reduceToNat, Int.reduceNeg, Ilt_t, Ilt_f, Ile_t, Ile_f, Ieq_t, Ieq_f, Nlt_t, Nlt_f, Nle_t, Nle_f, Neq_t, Neq_f, or_true, true_or, or_false, false_or, and_true, true_and, and_false, false_and, ne_eq, or_self, and_self, decide_true, decide_false, Bool.false_eq_true], by simp only []; omega, by simp only []; omega⟩
    have e : harm S A = hA S A S.nl 0 (0, -1) := by unfold harm; rw [if_pos d]
    rw [e]
    refine ⟨M', ?_, g.tr h2, h4.1, h4.2.1⟩
    simp (disch := omega) only [↓reduceIte, add_i0, cast_add1, cast_sub1, toNat120, i32_lit, i32_neg, i32_add, i32_sub, i32_mul, i32_nat, i32_le, i32_lt, i32_eq, inB_i, Int.toNat_natCast, mI_sI_eq, mI_sI_ne, mR_sR_eq, mR_sR_ne, mI_sR, mR_sI, mK_sI, mN_sI, mn_sI, mJ_sI, mK_sR, mN_sR, mn_sR, mJ_sR, mI_wI, mR_wI, mK_wI, mN_wI, mn_wI, mJ_wI, ↓bnd_of, ↓bndX_r, ↓bndX_l, ↓ap_of, bnd_of, bndX_r, bndX_l, if_true, if_false, ite_true, ite_false, not_true_eq_false, not_false_eq_true, Nat.reduceAdd, Nat.reduceMul, Nat.reduceEqDiff, Int.reduceToNat, Int.reduceNeg, Ilt_t, Ilt_f, Ile_t, Ile_f, Ieq_t, Ieq_f, Nlt_t, Nlt_f, Nle_t, Nle_f, Neq_t, Neq_f, or_true, true_or, or_false, false_or, and_true, true_and, and_false, false_and, ne_eq, or_self, and_self, decide_true, decide_false, Bool.false_eq_true, f_X1_weigh, hL.o, h0, d]
    exact h1
  · have e : harm S A = (0, -1) := by unfold harm; rw [if_neg d]
    rw [e]
    refine ⟨_, ?_, g, by simp (disch := omega) only [↓reduceIte, add_i0, cast_add1, cast_sub1, toNat120, i32_lit, i32_neg, i32_add, i32_sub, i32_mul, i32_nat, i32_le, i32_lt, i32_eq, inB_i, Int.toNat_natCast, mI_sI_eq, mI_sI_ne, mR_sR_eq, mR_sR_ne, mI_sR, mR_sI, mK_sI, mN_sI, mn_sI, mJ_sI, mK_sR, mN_sR, mn_sR, mJ_sR, mI_wI, mR_wI, mK_wI, mN_wI, mn_wI, mJ_wI, ↓bnd_of, ↓bndX_r, ↓bndX_l, ↓ap_of, bnd_of, bndX_r, bndX_l, if_true, if_false, ite_true, ite_false, not_true_eq_false, not_false_eq_true, Nat.reduceAdd, Nat.reduceMul, Nat.reduceEqDiff, Int.reduceToNat, Int.reduceNeg, Ilt_t, Ilt_f, Ile_t, Ile_f, Ieq_t, Ieq_f, Nlt_t, Nlt_f, Nle_t, Nle_f, Neq_t, Neq_f, or_true, true_or, or_false, false_or, and_true, true_and, and_false, false_and, ne_eq, or_self, and_self, decide_true, decide_false, Bool.false_eq_true], by simp (disch := omega) only [↓reduceIte, add_i0, cast_add1, cast_sub1, toNat120, i32_lit, i32_neg, i32_add, i32_sub, i32_mul, i32_nat, i32_le, i32_lt, i32_eq, inB_i, Int.toNat_natCast, mI_sI_eq, mI_sI_ne, mR_sR_eq, mR_sR_ne, mI_sR, mR_sI, mK_sI, mN_sI, mn_sI, mJ_sI, mK_sR, mN_sR, mn_sR, mJ_sR, mI_wI, mR_wI, mK_wI, mN_wI, mn_wI, mJ_wI, ↓bnd_of, ↓bndX_r, ↓bndX_l, ↓ap_of, bnd_of, bndX_r, bndX_l, if_true, if_false, ite_true, ite_false, not_true_eq_false, not_false_eq_true, Nat.reduceAdd, Nat.reduceMul, Nat.reduceEqDiff, Int.reduceToNat, Int.reduceNeg, Ilt_t, Ilt_f, Ile_t, Ile_f, Ieq_t, Ieq_f, Nlt_t, Nlt_f, Nle_t, Nle_f, Neq_t, Neq_f, or_true, true_or, or_false, false_or, and_true, true_and, and_false, false_and, ne_eq, or_self, and_self, decide_true, decide_false, Bool.false_eq_true]⟩
    simp (disch := omega) only [↓reduceIte, add_i0, cast_add1, cast_sub1, toNat120, i32_lit, i32_neg, i32_add, i32_sub, i32_mul, i32_nat, i32_le, i32_lt, i32_eq, inB_i, Int.toNat_natCast, mI_sI_eq, mI_sI_ne, mR_sR_eq, mR_sR_ne, mI_sR, mR_sI, mK_sI, mN_sI, mn_sI, mJ_sI, mK_sR, mN_sR, mn_sR, mJ_sR, mI_wI, mR_wI, mK_wI, mN_wI, mn_wI, mJ_wI, ↓bnd_of, ↓bndX_r, ↓bndX_l, ↓ap_of, bnd_of, bndX_r, bndX_l, if_true, if_false, ite_true, ite_false, not_true_eq_false, not_false_eq_true, Nat.reduceAdd, Nat.reduceMul, Nat.reduceEqDiff, Int.reduceToNat, Int.reduceNeg, Ilt_t, Ilt_f, Ile_t, Ile_f, Ieq_t, Ieq_f, Nlt_t, Nlt_f, Nle_t, Nle_f, Neq_t, Neq_f, or_true, true_or, or_false, false_or, and_true, true_and, and_false, false_and, ne_eq, or_self, and_self, decide_true, decide_false, Bool.false_eq_true, f_X1_weigh, hL.o, h0]
end
