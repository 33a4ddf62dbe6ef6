/-! HARMLESS in the reference: a level is tried, and put back -/
def RW (M : Mem) (st : Int × Int) (B : Int) : Prop := mI M 134 36 = i32 st.1 ∧ mI M 134 37 = i32 st.2 ∧ 0 ≤ st.1 ∧ st.1 ≤ B ∧ (st.1 = 0 ↔ st.2 = -1)
section
variable {M : Mem} {S : Sc} {A : St}
theorem RE.wRp (hE : RE M A) {l j : Nat} (hl : l < 8) (hj : j < A.sz l) {v : Int} (v0 : 0 ≤ v) (v9 : v ≤ 9) : RE (sI M 150 (120 * l + j) (i32 (10000 * v + 1000 * A.df l j + A.vl l j))) (A.wRp l j v) := by
  obtain ⟨a0, a1, a2, a3⟩ := hE
  refine ⟨St.ok_wRp a0 l j v0 v9, fun a q => ?_, fun a b q r => ?_, ?_⟩
  · rw [mI_sI_ne (by omega)]; exact a1 a q
  · have r' : b < A.sz a := r
    have z1 := a0.2.2.2.1 a
    have z2 := a0.2.2.2.1 l
    by_cases c : a = l ∧ b = j
    · obtain ⟨c1, c2⟩ := c
      subst c1; subst c2
      rw [mI_sI_eq]
      have : (A.wRp a b v).rp a b = v := if_pos ⟨rfl, rfl⟩
      rw [this]
      rfl
    · rw [mI_sI_ne (by omega)]
      have : (A.wRp l j v).rp a b = A.rp a b := if_neg c
      rw [this]
      exact a2 a b q r'
  · rw [mI_sI_ne (by omega)]; exact a3
theorem RE.wDf (hE : RE M A) {l j : Nat} (hl : l < 8) (hj : j < A.sz l) {v : Int} (v0 : 0 ≤ v) (v9 : v ≤ 9) : RE (sI M 150 (120 * l + j) (i32 (10000 * A.rp l j + 1000 * v + A.vl l j))) (A.wDf l j v) := by
  obtain ⟨a0, a1, a2, a3⟩ := hE
  refine ⟨St.ok_wDf a0 l j v0 v9, fun a q => ?_, fun a b q r => ?_, ?_⟩
  · rw [mI_sI_ne (by omega)]; exact a1 a q
  · have r' : b < A.sz a := r
    have z1 := a0.2.2.2.1 a
    have z2 := a0.2.2.2.1 l
    by_cases c : a = l ∧ b = j
    · obtain ⟨c1, c2⟩ := c
      subst c1; subst c2
      rw [mI_sI_eq]
      have : (A.wDf a b v).df a b = v := if_pos ⟨rfl, rfl⟩
      rw [this]
      rfl
    · rw [mI_sI_ne (by omega)]
      have : (A.wDf l j v).df a b = A.df a b := if_neg c
      rw [this]
      exact a2 a b q r'
  · rw [mI_sI_ne (by omega)]; exact a3
theorem RV.ent (hV : RV M S A) {k : Nat} {x : Int32} {A' : St} (hE : RE (sI M 150 k x) A') : RV (sI M 150 k x) S A' := by
  obtain ⟨hL, hR, -⟩ := hV
  refine ⟨hL, ?_, hE⟩
  unfold RS0 at hR ⊢
  obtain ⟨a0, a1, a2, a3, a4, a5, a6, a7, a8, a9, a10⟩ := hR
  refine ⟨?_, ?_, fun f q => ?_, fun f q => ?_, fun f q => ?_, fun f q => ?_, fun f q => ?_, fun f q => ?_, fun f i q r => ?_, fun f q => ?_, fun l q => ?_⟩
  · rw [mI_sI_ne (by omega)]; exact a0
  · rw [mI_sI_ne (by omega)]; exact a1
  · rw [mI_sI_ne (by omega)]; exact a2 f q
  · rw [mI_sI_ne (by omega)]; exact a3 f q
  · rw [mI_sI_ne (by omega)]; exact a4 f q
  · rw [mI_sI_ne (by omega)]; exact a5 f q
  · rw [mI_sI_ne (by omega)]; exact a6 f q
  · rw [mI_sI_ne (by omega)]; exact a7 f q
  · rw [mI_sI_ne (by omega)]; exact a8 f i q r
  · rw [mI_sI_ne (by omega)]; exact a9 f q
  · rw [mI_sI_ne (by omega)]; exact a10 l q
/-- the tail of tryLevel, over the changed cell: counted or not, the cell is put back -/
theorem X12_try_tail (hL : RLay M) {l j : Nat} (hl : l < 8) (hj : j < 120) (x : Int32) (b : Bool) (c : Int) (c0 : 0 ≤ c) {st : Int × Int} {B : Int} (hB : B ≤ 1000000) (hw : RW M st B) :
    ∃ M', (if b = true then (if mI (sI M 150 (120 * l + j) x) 134 36 = i32 0 then f_X12_tryLevel_102 134 (i32 l) (i32 j) (mI M 150 (120 * l + j)) (sI (sI M 150 (120 * l + j) x) 134 37 (i32 c)) else f_X12_tryLevel_102 134 (i32 l) (i32 j) (mI M 150 (120 * l + j)) (sI M 150 (120 * l + j) x)) else f_X12_tryLevel_112 134 (i32 l) (i32 j) (mI M 150 (120 * l + j)) (sI M 150 (120 * l + j) x)) = some ((), M') ∧ Scr M M' ∧ RW M' (hst b c st) (B + 1) := by
  obtain ⟨w1, w2, w3, w4, w5⟩ := hw
  cases b with
  | false =>
    refine ⟨M, ?_, Scr.rf M, w1, w2, w3, by show st.1 ≤ B + 1; omega, w5⟩
    simp (disch := omega) only [↓reduceIte, add_i0, cast_add1, cast_sub1, toNat120, i32_lit, i32_neg, i32_add, i32_sub, i32_mul, i32_nat, i32_le, i32_lt, i32_eq, inB_i, Int.toNat_natCast, mI_sI_eq, mI_sI_ne, mR_sR_eq, mR_sR_ne, mI_sR, mR_sI, mK_sI, mN_sI, mn_sI, mJ_sI, mK_sR, mN_sR, mn_sR, mJ_sR, mI_wI, mR_wI, mK_wI, mN_wI, mn_wI, mJ_wI, ↓bnd_of, ↓bndX_r, ↓bndX_l, ↓ap_of, bnd_of, bndX_r, bndX_l, if_true, if_false, ite_true, ite_false, not_true_eq_false, not_false_eq_true, Nat.reduceAdd, Nat.reduceMul, Nat.reduceEqDiff, Int.reduceToNat, Int.reduceNeg, Ilt_t, Ilt_f, Ile_t, Ile_f, Ieq_t, Ieq_f, Nlt_t, Nlt_f, Nle_t, Nle_f, Neq_t, Neq_f, or_true, true_or, or_false, false_or, and_true, true_and, and_false, false_and, ne_eq, or_self, and_self, decide_true, decide_false, Bool.false_eq_true, f_X12_tryLevel_112, hL.o]
    rw [sI_back]
  | true =>
    by_cases d : st.1 = 0
    · refine ⟨sI (sI M 134 37 (i32 c)) 134 36 (i32 (st.1 + 1)), ?_, ((Scr.rf M).sI (by unfold ScI; omega)).sI (by unfold ScI; omega), ?_⟩
      · simp (disch := omega) only [↓reduceIte, add_i0, cast_add1, cast_sub1, toNat120, i32_lit, i32_neg, i32_add, i32_sub, i32_mul, i32_nat, i32_le, i32_lt, i32_eq, inB_i, Int.toNat_natCast, mI_sI_eq, mI_sI_ne, mR_sR_eq, mR_sR_ne, mI_sR, mR_sI, mK_sI, mN_sI, mn_sI, mJ_sI, mK_sR, mN_sR, mn_sR, mJ_sR, mI_wI, mR_wI, mK_wI, mN_wI, mn_wI, mJ_wI, ↓bnd_of, ↓bndX_r, ↓bndX_l, ↓ap_of, bnd_of, bndX_r, bndX_l, if_true, if_false, ite_true, ite_false, not_true_eq_false, not_false_eq_true, Nat.reduceAdd, Nat.reduceMul, Nat.reduceEqDiff, Int.reduceToNat, Int.reduceNeg, Ilt_t, Ilt_f, Ile_t, Ile_f, Ieq_t, Ieq_f, Nlt_t, Nlt_f, Nle_t, Nle_f, Neq_t, Neq_f, or_true, true_or, or_false, false_or, and_true, true_and, and_false, false_and, ne_eq, or_self, and_self, decide_true, decide_false, Bool.false_eq_true, f_X12_tryLevel_102, f_X12_tryLevel_112, hL.o, w1, d]
        rw [sI_comm M x (i32 c) (by omega), sI_comm (sI M 134 37 (i32 c)) x _ (by omega)]
        have e : mI M 150 (120 * l + j) = mI (sI (sI M 134 37 (i32 c)) 134 36 (i32 1)) 150 (120 * l + j) := by simp (disch := omega) only [↓reduceIte, add_i0, cast_add1, cast_sub1, toNat120, i32_lit, i32_neg, i32_add, i32_sub, i32_mul, i32_nat, i32_le, i32_lt, i32_eq, inB_i, Int.toNat_natCast, mI_sI_eq, mI_sI_ne, mR_sR_eq, mR_sR_ne, mI_sR, mR_sI, mK_sI, mN_sI, mn_sI, mJ_sI, mK_sR, mN_sR, mn_sR, mJ_sR, mI_wI, mR_wI, mK_wI, mN_wI, mn_wI, mJ_wI, ↓bnd_of, ↓bndX_r, ↓bndX_l, ↓ap_of, bnd_of, bndX_r, bndX_l, if_true, if_false, ite_true, ite_false, not_true_eq_false, not_false_eq_true, Nat.reduceAdd, Nat.reduceMul, Nat.reduceEqDiff, Int.reduceToNat, Int.reduceNeg, Ilt_t, Ilt_f, Ile_t, Ile_f, Ieq_t, Ieq_f, Nlt_t, Nlt_f, Nle_t, Nle_f, Neq_t, Neq_f, or_true, true_or, or_false, false_or, and_true, true_and, and_false, false_and, ne_eq, or_self, and_self, decide_true, decide_false, Bool.false_eq_true]
        rw [e, sI_back]
      · have d2 := w5.mp d
        unfold hst
        simp only [d2, if_true]
        exact ⟨by simp (disch := omega) only [↓reduceIte, add_i0, cast_add1, cast_sub1, toNat120, i32_lit, i32_neg, i32_add, i32_sub, i32_mul, i32_nat, i32_le, i32_lt, i32_eq, inB_i, Int.toNat_natCast, mI_sI_eq, mI_sI_ne, mR_sR_eq, mR_sR_ne, mI_sR, mR_sI, mK_sI, mN_sI, mn_sI, mJ_sI, mK_sR, mN_sR, mn_sR, mJ_sR, mI_wI, mR_wI, mK_wI, mN_wI, mn_wI, mJ_wI, ↓bnd_of, ↓bndX_r, ↓bndX_l, ↓ap_of, bnd_of, bndX_r, bndX_l, if_true, if_false, ite_true, ite_false, not_true_eq_false, not_false_eq_true, Nat.reduceAdd, Nat.reduceMul, Nat.reduceEqDiff, Int.reduceToNat, Int.reduceNeg, Ilt_t, Ilt_f, Ile_t, Ile_f, Ieq_t, Ieq_f, Nlt_t, Nlt_f, Nle_t, Nle_f, Neq_t, Neq_f, or_true, true_or, or_false, false_or, and_true, true_and, and_false, false_and, ne_eq, or_self, and_self, decide_true, decide_false, Bool.false_eq_true], by simp (disch := omega) only [↓reduceIte, add_i0, cast_add1, cast_sub1, toNat120, i32_lit, i32_neg, i32_add, i32_sub, i32_mul, i32_nat, i32_le, i32_lt, i32_eq, inB_i, Int.toNat_natCast, mI_sI_eq, mI_sI_ne, mR_sR_eq, mR_sR_ne, mI_sR, mR_sI, mK_sI, mN_sI, mn_sI, mJ_sI, mK_sR, mN_sR, mn_sR, mJ_sR, mI_wI, mR_wI, mK_wI, mN_wI, mn_wI, mJ_wI, ↓bnd_of, ↓bndX_r, ↓bndX_l, ↓ap_of, bnd_of, bndX_r, bndX_l, if_true, if_false, ite_true, ite_false, not_true_eq_false, not_false_eq_true, Nat.reduceAdd, Nat.reduceMul, Nat.reduceEqDiff, Int.reduceToNat, Int.reduceNeg, Ilt_t, Ilt_f, Ile_t, Ile_f, Ieq_t, Ieq_f, Nlt_t, Nlt_f, Nle_t, Nle_f, Neq_t, Neq_f, or_true, true_or, or_false, false_or, and_true, true_and, and_false, false_and, ne_eq, or_self, and_self, decide_true, decide_false, Bool.false_eq_true], by simp only []; omega, by simp only []; omega, by simp only []; omega⟩
    · refine ⟨sI M 134 36 (i32 (st.1 + 1)), ?_, (Scr.rf M).sI (by unfold ScI; omega), ?_⟩
      · simp (disch := omega) only [↓reduceIte, add_i0, cast_add1, cast_sub1, toNat120, i32_lit, i32_neg, i32_add, i32_sub, i32_mul, i32_nat, i32_le, i32_lt, i32_eq, inB_i, Int.toNat_natCast, mI_sI_eq, mI_sI_ne, mR_sR_eq, mR_sR_ne, mI_sR, mR_sI, mK_sI, mN_sI, mn_sI, mJ_sI, mK_sR, mN_sR, mn_sR, mJ_sR, mI_wI, mR_wI, mK_wI, mN_wI, mn_wI, mJ_wI, ↓bnd_of, ↓bndX_r, ↓bndX_l, ↓ap_of, bnd_of, bndX_r, bndX_l, if_true, if_false, ite_true, ite_false, not_true_eq_false, not_false_eq_true, Nat.reduceAdd, Nat.reduceMul, Nat.reduceEqDiff, Int.reduceToNat, Int.reduceNeg, Ilt_t, Ilt_f, Ile_t, Ile_f, Ieq_t, Ieq_f, Nlt_t, Nlt_f, Nle_t, Nle_f, Neq_t, Neq_f, or_true, true_or, or_false, false_or, and_true, true_and, and_false, false_and, ne_eq, or_self, and_self, decide_true, decide_false, Bool.false_eq_true, f_X12_tryLevel_102, f_X12_tryLevel_112, hL.o, w1, d]
        rw [sI_comm M x _ (by omega)]
        have e : mI M 150 (120 * l + j) = mI (sI M 134 36 (i32 (st.1 + 1))) 150 (120 * l + j) := by simp (disch := omega) only [↓reduceIte, add_i0, cast_add1, cast_sub1, toNat120, i32_lit, i32_neg, i32_add, i32_sub, i32_mul, i32_nat, i32_le, i32_lt, i32_eq, inB_i, Int.toNat_natCast, mI_sI_eq, mI_sI_ne, mR_sR_eq, mR_sR_ne, mI_sR, mR_sI, mK_sI, mN_sI, mn_sI, mJ_sI, mK_sR, mN_sR, mn_sR, mJ_sR, mI_wI, mR_wI, mK_wI, mN_wI, mn_wI, mJ_wI, ↓bnd_of, ↓bndX_r, ↓bndX_l, ↓ap_of, bnd_of, bndX_r, bndX_l, if_true, if_false, ite_true, ite_false, not_true_eq_false, not_false_eq_true, Nat.reduceAdd, Nat.reduceMul, Nat.reduceEqDiff, Int.reduceToNat, Int.reduceNeg, Ilt_t, Ilt_f, Ile_t, Ile_f, Ieq_t, Ieq_f, Nlt_t, Nlt_f, Nle_t, Nle_f, Neq_t, Neq_f, or_true, true_or, or_false, false_or, and_true, true_and, and_false, false_and, ne_eq, or_self, and_self, decide_true, decide_false, Bool.false_eq_true]
        rw [e, sI_back]
      · have d2 : ¬ st.2 = -1 := fun q => d (w5.mpr q)
        unfold hst
        simp only [d2, if_true, if_false]
        exact ⟨by simp (disch := omega) only [↓reduceIte, add_i0, cast_add1, cast_sub1, toNat120, i32_lit, i32_neg, i32_add, i32_sub, i32_mul, i32_nat, i32_le, i32_lt, i32_eq, inB_i, Int.toNat_natCast, mI_sI_eq, mI_sI_ne, mR_sR_eq, mR_sR_ne, mI_sR, mR_sI, mK_sI, mN_sI, mn_sI, mJ_sI, mK_sR, mN_sR, mn_sR, mJ_sR, mI_wI, mR_wI, mK_wI, mN_wI, mn_wI, mJ_wI, ↓bnd_of, ↓bndX_r, ↓bndX_l, ↓ap_of, bnd_of, bndX_r, bndX_l, if_true, if_false, ite_true, ite_false, not_true_eq_false, not_false_eq_true, Nat.reduceAdd, Nat.reduceMul, Nat.reduceEqDiff, Int.reduceToNat, Int.reduceNeg, Ilt_t, Ilt_f, Ile_t, Ile_f, Ieq_t, Ieq_f, Nlt_t, Nlt_f, Nle_t, Nle_f, Neq_t, Neq_f, or_true, true_or, or_false, false_or, and_true, true_and, and_false, false_and, ne_eq, or_self, and_self, decide_true, decide_false, Bool.false_eq_true], by simp (disch := omega) only [↓reduceIte, add_i0, cast_add1, cast_sub1, toNat120, i32_lit, i32_neg, i32_add, i32_sub, i32_mul, i32_nat, i32_le, i32_lt, i32_eq, inB_i, Int.toNat_natCast, mI_sI_eq, mI_sI_ne, mR_sR_eq, mR_sR_ne, mI_sR, mR_sI, mK_sI, mN_sI, mn_sI, mJ_sI, mK_sR, mN_sR, mn_sR, mJ_sR, mI_wI, mR_wI, mK_wI, mN_wI, mn_wI, mJ_wI, ↓bnd_of, ↓bndX_r, ↓bndX_l, ↓ap_of, bnd_of, bndX_r, bndX_l, if_true, if_false, ite_true, ite_false, not_true_eq_false, not_false_eq_true, Nat.reduceAdd, Nat.reduceMul, Nat.reduceEqDiff, Int.reduceToNat, Int.reduceNeg, Ilt_t, Ilt_f, Ile_t, Ile_f, Ieq_t, Ieq_f, Nlt_t, Nlt_f, Nle_t, Nle_f, Neq_t, Neq_f, or_true, true_or, or_false, false_or, and_true, true_and, and_false, false_and, ne_eq, or_self, and_self, decide_true, decide_false, Bool.false_eq_true, w2], by simp only []; omega, by simp only []; omega, by simp only []; omega⟩
end
