/-! HARMLESS in the reference: a level is tried, and put back -/
def RW (M : Mem) (st : Int × Int) (B : Int) : Prop := mI M 134 36 = i32 st.1 ∧ mI M 134 37 = i32 st.2 ∧ 0 ≤ st.1 ∧ st.1 ≤ B ∧ (st.1 = 0 ↔ st.2 = -1) ∧ mI M 134 2 = i32 0
section
variable {M : Mem} {S : Sc} {A : St}
theorem RE.wRp (hE : RE M A) {l j : Nat} (hl : l < 8) (hj : j < A.sz l) {v : Int} (v0 : 0 ≤ v) (v9 : v ≤ 9) : RE (sI M 150 (120 * l + j) (i32 (10000 * v + 1000 * A.df l j + A.vl l j))) (A.wRp l j v) := by
  obtain ⟨a0, a1, a2, a3⟩ := hE
  refine ⟨St.ok_wRp a0 l j v0 v9, fun a q => ?_, fun a b q r => ?_, ?_⟩
  · rw [mI_sI_ne (by omega)]; exact a1 a q
  · have r' : b < A.sz a := r
    have z1 := a0.2.2.2.1 a
    have z2 := a0.2.2.2.1 l
    by_cases c : a = l ∧ b = j
    · obtain ⟨c1, c2⟩ := c
      subst c1; subst c2
      rw [mI_sI_eq]
      have : (A.wRp a b v).rp a b = v := if_pos ⟨rfl, rfl⟩
      rw [this]
      rfl
    · rw [mI_sI_ne (by omega)]
      have : (A.wRp l j v).rp a b = A.rp a b := if_neg c
      rw [this]
      exact a2 a b q r'
  · rw [mI_sI_ne (by omega)]; exact a3
theorem RE.wDf (hE : RE M A) {l j : Nat} (hl : l < 8) (hj : j < A.sz l) {v : Int} (v0 : 0 ≤ v) (v9 : v ≤ 9) : RE (sI M 150 (120 * l + j) (i32 (10000 * A.rp l j + 1000 * v + A.vl l j))) (A.wDf l j v) := by
  obtain ⟨a0, a1, a2, a3⟩ := hE
  refine ⟨St.ok_wDf a0 l j v0 v9, fun a q => ?_, fun a b q r => ?_, ?_⟩
  · rw [mI_sI_ne (by omega)]; exact a1 a q
  · have r' : b < A.sz a := r
    have z1 := a0.2.2.2.1 a
    have z2 := a0.2.2.2.1 l
    by_cases c : a = l ∧ b = j
    · obtain ⟨c1, c2⟩ := c
      subst c1; subst c2
      rw [mI_sI_eq]
      have : (A.wDf a b v).df a b = v := if_pos ⟨rfl, rfl⟩
      rw [this]
      rfl
    · rw [mI_sI_ne (by omega)]
      have : (A.wDf l j v).df a b = A.df a b := if_neg c
      rw [this]
      exact a2 a b q r'
  · rw [mI_sI_ne (by omega)]; exact a3
theorem RV.ent (hV : RV M S A) {k : Nat} {x : Int32} {A' : St} (hE : RE (sI M 150 k x) A') : RV (sI M 150 k x) S A' := by
  obtain ⟨hL, hR, -⟩ := hV
  refine ⟨hL, ?_, hE⟩
  unfold RS0 at hR ⊢
  obtain ⟨a0, a1, a2, a3, a4, a5, a6, a7, a8, a9, a10⟩ := hR
  refine ⟨?_, ?_, fun f q => ?_, fun f q => ?_, fun f q => ?_, fun f q => ?_, fun f q => ?_, fun f q => ?_, fun f i q r => ?_, fun f q => ?_, fun l q => ?_⟩
  · rw [mI_sI_ne (by omega)]; exact a0
  · rw [mI_sI_ne (by omega)]; exact a1
  · rw [mI_sI_ne (by omega)]; exact a2 f q
  · rw [mI_sI_ne (by omega)]; exact a3 f q
  · rw [mI_sI_ne (by omega)]; exact a4 f q
  · rw [mI_sI_ne (by omega)]; exact a5 f q
  · rw [mI_sI_ne (by omega)]; exact a6 f q
  · rw [mI_sI_ne (by omega)]; exact a7 f q
  · rw [mI_sI_ne (by omega)]; exact a8 f i q r
  · rw [mI_sI_ne (by omega)]; exact a9 f q
  · rw [mI_sI_ne (by omega)]; exact a10 l q
/-- the tail of tryLevel, over the changed cell: counted or not, the cell is put back -/
theorem X12_try_tail (hL : RLay M) {l j : Nat} (hl : l < 8) (hj : j < 120) (x : Int32) (b : Bool) (c : Int) (c0 : 0 ≤ c) {st : Int × Int} {B : Int} (hB : B ≤ 1000000) (hw : RW M st B) :
    ∃ M', (if b = true then (if mI (sI M 150 (120 * l + j) x) 134 36 = i32 0 then f_X12_tryLevel_102 134 (i32 l) (i32 j) (mI M 150 (120 * l + j)) (sI (sI M 150 (120 * l + j) x) 134 37 (i32 c)) else f_X12_tryLevel_102 134 (i32 l) (i32 j) (mI M 150 (120 * l + j)) (sI M 150 (120 * l + j) x)) else f_X12_tryLevel_112 134 (i32 l) (i32 j) (mI M 150 (120 * l + j)) (sI M 150 (120 * l + j) x)) = some ((), M') ∧ Scr M M' ∧ RW M' (hst b c st) (B + 1) := by
  obtain ⟨w1, w2, w3, w4, w5, w6⟩ := hw
  cases b with
  | false =>
    refine ⟨M, ?_, Scr.rf M, w1, w2, w3, by show st.1 ≤ B + 1; omega, w5, w6⟩
    simp (disch := omega) only [↓reduceIte, add_i0, cast_add1, cast_sub1, toNat120, i32_lit, i32_neg, i32_add, i32_sub, i32_mul, i32_nat, i32_le, i32_lt, i32_eq, inB_i, Int.toNat_natCast, mI_sI_eq, mI_sI_ne, mR_sR_eq, mR_sR_ne, mI_sR, mR_sI, mK_sI, mN_sI, mn_sI, mJ_sI, mK_sR, mN_sR, mn_sR, mJ_sR, mI_wI, mR_wI, mK_wI, mN_wI, mn_wI, mJ_wI, ↓bnd_of, ↓bndX_r, ↓bndX_l, ↓ap_of, bnd_of, bndX_r, bndX_l, if_true, if_false, ite_true, ite_false, not_true_eq_false, not_false_eq_true, Nat.reduceAdd, Nat.reduceMul, Nat.reduceEqDiff, Int.reduceToNat, Int.reduceNeg, Ilt_t, Ilt_f, Ile_t, Ile_f, Ieq_t, Ieq_f, Nlt_t, Nlt_f, Nle_t, Nle_f, Neq_t, Neq_f, or_true, true_or, or_false, false_or, and_true, true_and, and_false, false_and, ne_eq, or_self, and_self, decide_true, decide_false, Bool.false_eq_true, f_X12_tryLevel_112, hL.o]
    rw [sI_back]
  | true =>
    by_cases d : st.1 = 0
    · refine ⟨sI (sI M 134 37 (i32 c)) 134 36 (i32 (st.1 + 1)), ?_, ((Scr.rf M).sI (by unfold ScI; omega)).sI (by unfold ScI; omega), ?_⟩
      · simp (disch := omega) only [↓reduceIte, add_i0, cast_add1, cast_sub1, toNat120, i32_lit, i32_neg, i32_add, i32_sub, i32_mul, i32_nat, i32_le, i32_lt, i32_eq, inB_i, Int.toNat_natCast, mI_sI_eq, mI_sI_ne, mR_sR_eq, mR_sR_ne, mI_sR, mR_sI, mK_sI, mN_sI, mn_sI, mJ_sI, mK_sR, mN_sR, mn_sR, mJ_sR, mI_wI, mR_wI, mK_wI, mN_wI, mn_wI, mJ_wI, ↓bnd_of, ↓bndX_r, ↓bndX_l, ↓ap_of, bnd_of, bndX_r, bndX_l, if_true, if_false, ite_true, ite_false, not_true_eq_false, not_false_eq_true, Nat.reduceAdd, Nat.reduceMul, Nat.reduceEqDiff, Int.reduceToNat, Int.reduceNeg, Ilt_t, Ilt_f, Ile_t, Ile_f, Ieq_t, Ieq_f, Nlt_t, Nlt_f, Nle_t, Nle_f, Neq_t, Neq_f, or_true, true_or, or_false, false_or, and_true, true_and, and_false, false_and, ne_eq, or_self, and_self, decide_true, decide_false, Bool.false_eq_true, f_X12_tryLevel_102, f_X12_tryLevel_112, hL.o, w1, d]
        rw [sI_comm M x (i32 c) (by omega), sI_comm (sI M 134 37 (i32 c)) x _ (by omega)]
        have e : mI M 150 (120 * l + j) = mI (sI (sI M 134 37 (i32 c)) 134 36 (i32 (0 + 1))) 150 (120 * l + j) := by simp (disch := omega) only [↓reduceIte, add_i0, cast_add1, cast_sub1, toNat120, i32_lit, i32_neg, i32_add, i32_sub, i32_mul, i32_nat, i32_le, i32_lt, i32_eq, inB_i, Int.toNat_natCast, mI_sI_eq, mI_sI_ne, mR_sR_eq, mR_sR_ne, mI_sR, mR_sI, mK_sI, mN_sI, mn_sI, mJ_sI, mK_sR, mN_sR, mn_sR, mJ_sR, mI_wI, mR_wI, mK_wI, mN_wI, mn_wI, mJ_wI, ↓bnd_of, ↓bndX_r, ↓bndX_l, ↓ap_of, bnd_of, bndX_r, bndX_l, if_true, if_false, ite_true, ite_false, not_true_eq_false, not_false_eq_true, Nat.reduceAdd, Nat.reduceMul, Nat.reduceEqDiff, Int.reduceToNat, Int.reduceNeg, Ilt_t, Ilt_f, Ile_t, Ile_f, Ieq_t, Ieq_f, Nlt_t, Nlt_f, Nle_t, Nle_f, Neq_t, Neq_f, or_true, true_or, or_false, false_or, and_true, true_and, and_false, false_and, ne_eq, or_self, and_self, decide_true, decide_false, Bool.false_eq_true]
        rw [e, sI_back]
      · have d2 := w5.mp d
        unfold hst
        simp only [d2, if_true]
        exact ⟨by simp (disch := omega) only [↓reduceIte, add_i0, cast_add1, cast_sub1, toNat120, i32_lit, i32_neg, i32_add, i32_sub, i32_mul, i32_nat, i32_le, i32_lt, i32_eq, inB_i, Int.toNat_natCast, mI_sI_eq, mI_sI_ne, mR_sR_eq, mR_sR_ne, mI_sR, mR_sI, mK_sI, mN_sI, mn_sI, mJ_sI, mK_sR, mN_sR, mn_sR, mJ_sR, mI_wI, mR_wI, mK_wI, mN_wI, mn_wI, mJ_wI, ↓bnd_of, ↓bndX_r, ↓bndX_l, ↓ap_of, bnd_of, bndX_r, bndX_l, if_true, if_false, ite_true, ite_false, not_true_eq_false, not_false_eq_true, Nat.reduceAdd, Nat.reduceMul, Nat.reduceEqDiff, Int.reduceToNat, Int.reduceNeg, Ilt_t, Ilt_f, Ile_t, Ile_f, Ieq_t, Ieq_f, Nlt_t, Nlt_f, Nle_t, Nle_f, Neq_t, Neq_f, or_true, true_or, or_false, false_or, and_true, true_and, and_false, false_and, ne_eq, or_self, and_self, decide_true, decide_false, Bool.false_eq_true], by simp (disch := omega) only [↓reduceIte, add_i0, cast_add1, cast_sub1, toNat120, i32_lit, i32_neg, i32_add, i32_sub, i32_mul, i32_nat, i32_le, i32_lt, i32_eq, inB_i, Int.toNat_natCast, mI_sI_eq, mI_sI_ne, mR_sR_eq, mR_sR_ne, mI_sR, mR_sI, mK_sI, mN_sI, mn_sI, mJ_sI, mK_sR, mN_sR, mn_sR, mJ_sR, mI_wI, mR_wI, mK_wI, mN_wI, mn_wI, mJ_wI, ↓bnd_of, ↓bndX_r, ↓bndX_l, ↓ap_of, bnd_of, bndX_r, bndX_l, if_true, if_false, ite_true, ite_false, not_true_eq_false, not_false_eq_true, Nat.reduceAdd, Nat.reduceMul, Nat.reduceEqDiff, Int.reduceToNat, Int.reduceNeg, Ilt_t, Ilt_f, Ile_t, Ile_f, Ieq_t, Ieq_f, Nlt_t, Nlt_f, Nle_t, Nle_f, Neq_t, Neq_f, or_true, true_or, or_false, false_or, and_true, true_and, and_false, false_and, ne_eq, or_self, and_self, decide_true, decide_false, Bool.false_eq_true], by simp only []; omega, by simp only []; omega, by simp only []; omega, by simp (disch := omega) only [↓reduceIte, add_i0, cast_add1, cast_sub1, toNat120, i32_lit, i32_neg, i32_add, i32_sub, i32_mul, i32_nat, i32_le, i32_lt, i32_eq, inB_i, Int.toNat_natCast, mI_sI_eq, mI_sI_ne, mR_sR_eq, mR_sR_ne, mI_sR, mR_sI, mK_sI, mN_sI, mn_sI, mJ_sI, mK_sR, mN_sR, mn_sR, mJ_sR, mI_wI, mR_wI, mK_wI, mN_wI, mn_wI, mJ_wI, ↓bnd_of, ↓bndX_r, ↓bndX_l, ↓ap_of, bnd_of, bndX_r, bndX_l, if_true, if_false, ite_true, ite_false, not_true_eq_false, not_false_eq_true, Nat.reduceAdd, Nat.reduceMul, Nat.reduceEqDiff, Int.reduceToNat, Int.reduceNeg, Ilt_t, Ilt_f, Ile_t, Ile_f, Ieq_t, Ieq_f, Nlt_t, Nlt_f, Nle_t, Nle_f, Neq_t, Neq_f, or_true, true_or, or_false, false_or, and_true, true_and, and_false, false_and, ne_eq, or_self, and_self, decide_true, decide_false, Bool.false_eq_true, w6]⟩
    · refine ⟨sI M 134 36 (i32 (st.1 + 1)), ?_, (Scr.rf M).sI (by unfold ScI; omega), ?_⟩
      · simp (disch := omega) only [↓reduceIte, add_i0, cast_add1, cast_sub1, toNat120, i32_lit, i32_neg, i32_add, i32_sub, i32_mul, i32_nat, i32_le, i32_lt, i32_eq, inB_i, Int.toNat_natCast, mI_sI_eq, mI_sI_ne, mR_sR_eq, mR_sR_ne, mI_sR, mR_sI, mK_sI, mN_sI, mn_sI, mJ_sI, mK_sR, mN_sR, mn_sR, mJ_sR, mI_wI, mR_wI, mK_wI, mN_wI, mn_wI, mJ_wI, ↓bnd_of, ↓bndX_r, ↓bndX_l, ↓ap_of, bnd_of, bndX_r, bndX_l, if_true, if_false, ite_true, ite_false, not_true_eq_false, not_false_eq_true, Nat.reduceAdd, Nat.reduceMul, Nat.reduceEqDiff, Int.reduceToNat, Int.reduceNeg, Ilt_t, Ilt_f, Ile_t, Ile_f, Ieq_t, Ieq_f, Nlt_t, Nlt_f, Nle_t, Nle_f, Neq_t, Neq_f, or_true, true_or, or_false, false_or, and_true, true_and, and_false, false_and, ne_eq, or_self, and_self, decide_true, decide_false, Bool.false_eq_true, f_X12_tryLevel_102, f_X12_tryLevel_112, hL.o, w1, d]
        rw [sI_comm M x _ (by omega)]
        have e : mI M 150 (120 * l + j) = mI (sI M 134 36 (i32 (st.1 + 1))) 150 (120 * l + j) := by simp (disch := omega) only [↓reduceIte, add_i0, cast_add1, cast_sub1, toNat120, i32_lit, i32_neg, i32_add, i32_sub, i32_mul, i32_nat, i32_le, i32_lt, i32_eq, inB_i, Int.toNat_natCast, mI_sI_eq, mI_sI_ne, mR_sR_eq, mR_sR_ne, mI_sR, mR_sI, mK_sI, mN_sI, mn_sI, mJ_sI, mK_sR, mN_sR, mn_sR, mJ_sR, mI_wI, mR_wI, mK_wI, mN_wI, mn_wI, mJ_wI, ↓bnd_of, ↓bndX_r, ↓bndX_l, ↓ap_of, bnd_of, bndX_r, bndX_l, if_true, if_false, ite_true, ite_false, not_true_eq_false, not_false_eq_true, Nat.reduceAdd, Nat.reduceMul, Nat.reduceEqDiff, Int.reduceToNat, Int.reduceNeg, Ilt_t, Ilt_f, Ile_t, Ile_f, Ieq_t, Ieq_f, Nlt_t, Nlt_f, Nle_t, Nle_f, Neq_t, Neq_f, or_true, true_or, or_false, false_or, and_true, true_and, and_false, false_and, ne_eq, or_self, and_self, decide_true, decide_false, Bool.false_eq_true]
        rw [e, sI_back]
      · have d2 : ¬ st.2 = -1 := fun q => d (w5.mpr q)
        unfold hst
        simp only [d2, if_true, if_false]
        exact ⟨by simp (disch := omega) only [↓reduceIte, add_i0, cast_add1, cast_sub1, toNat120, i32_lit, i32_neg, i32_add, i32_sub, i32_mul, i32_nat, i32_le, i32_lt, i32_eq, inB_i, Int.toNat_natCast, mI_sI_eq, mI_sI_ne, mR_sR_eq, mR_sR_ne, mI_sR, mR_sI, mK_sI, mN_sI, mn_sI, mJ_sI, mK_sR, mN_sR, mn_sR, mJ_sR, mI_wI, mR_wI, mK_wI, mN_wI, mn_wI, mJ_wI, ↓bnd_of, ↓bndX_r, ↓bndX_l, ↓ap_of, bnd_of, bndX_r, bndX_l, if_true, if_false, ite_true, ite_false, not_true_eq_false, not_false_eq_true, Nat.reduceAdd, Nat.reduceMul, Nat.reduceEqDiff, Int.reduceToNat, Int.reduceNeg, Ilt_t, Ilt_f, Ile_t, Ile_f, Ieq_t, Ieq_f, Nlt_t, Nlt_f, Nle_t, Nle_f, Neq_t, Neq_f, or_true, true_or, or_false, false_or, and_true, true_and, and_false, false_and, ne_eq, or_self, and_self, decide_true, decide_false, Bool.false_eq_true], by simp (disch := omega) only [↓reduceIte, add_i0, cast_add1, cast_sub1, toNat120, i32_lit, i32_neg, i32_add, i32_sub, i32_mul, i32_nat, i32_le, i32_lt, i32_eq, inB_i, Int.toNat_natCast, mI_sI_eq, mI_sI_ne, mR_sR_eq, mR_sR_ne, mI_sR, mR_sI, mK_sI, mN_sI, mn_sI, mJ_sI, mK_sR, mN_sR, mn_sR, mJ_sR, mI_wI, mR_wI, mK_wI, mN_wI, mn_wI, mJ_wI, ↓bnd_of, ↓bndX_r, ↓bndX_l, ↓ap_of, bnd_of, bndX_r, bndX_l, if_true, if_false, ite_true, ite_false, not_true_eq_false, not_false_eq_true, Nat.reduceAdd, Nat.reduceMul, Nat.reduceEqDiff, Int.reduceToNat, Int.reduceNeg, Ilt_t, Ilt_f, Ile_t, Ile_f, Ieq_t, Ieq_f, Nlt_t, Nlt_f, Nle_t, Nle_f, Neq_t, Neq_f, or_true, true_or, or_false, false_or, and_true, true_and, and_false, false_and, ne_eq, or_self, and_self, decide_true, decide_false, Bool.false_eq_true, w2], by simp only []; omega, by simp only []; omega, by simp only []; omega, by simp (disch := omega) only [↓reduceIte, add_i0, cast_add1, cast_sub1, toNat120, i32_lit, i32_neg, i32_add, i32_sub, i32_mul, i32_nat, i32_le, i32_lt, i32_eq, inB_i, Int.toNat_natCast, mI_sI_eq, mI_sI_ne, mR_sR_eq, mR_sR_ne, mI_sR, mR_sI, mK_sI, mN_sI, mn_sI, mJ_sI, mK_sR, mN_sR, mn_sR, mJ_sR, mI_wI, mR_wI, mK_wI, mN_wI, mn_wI, mJ_wI, ↓bnd_of, ↓bndX_r, ↓bndX_l, ↓ap_of, bnd_of, bndX_r, bndX_l, if_true, if_false, ite_true, ite_false, not_true_eq_false, not_false_eq_true, Nat.reduceAdd, Nat.reduceMul, Nat.reduceEqDiff, Int.reduceToNat, Int.reduceNeg, Ilt_t, Ilt_f, Ile_t, Ile_f, Ieq_t, Ieq_f, Nlt_t, Nlt_f, Nle_t, Nle_f, Neq_t, Neq_f, or_true, true_or, or_false, false_or, and_true, true_and, and_false, false_and, ne_eq, or_self, and_self, decide_true, decide_false, Bool.false_eq_true, w6]⟩
theorem X12_tryR (hW : S.wf) (hV : RV M S A) (hk : chkOk S A) {l j : Nat} (hl : l < S.nl) (hj : j < A.sz l) (v : Int) (v0 : 0 ≤ v) (v1 : v ≤ S.sr (S.fo l)) (hv : v ≠ A.rp l j) {st : Int × Int} {B : Int} (hB : B ≤ 1000000) (hw : RW M st B) :
    ∃ M', f_X12_tryLevel 134 (i32 l) (i32 j) (i32 0) (i32 v) M = some ((), M') ∧ Scr M M' ∧ RW M' (hst (harmRB S A l j v) ((l : Int) * 10000 + (j : Int) * 20 + v) st) (B + 1) := by
  have hS := hW.1
  have hnl := hS.2.1
  have b3 := Sc.sr_b hS (S.fo l)
  have hL := hV.1
  have hE := hV.2.2
  have bz := St.b hE.1 l j
  have e1 := X12_defAt hL hE (l := l) (j := j) (by omega) hj
  have e2 := X12_valueAt hL hE (l := l) (j := j) (by omega) hj
  have hV2 := hV.ent (hE.wRp (by omega) hj v0 (by omega))
  have dc : Decidable (wrBy S (A.wRp l j v) l j 0) := Classical.propDecidable _
  have e3 := X12_isWrongBy hW hV2 hl (show j < (A.wRp l j v).sz l from hj) 0 (by omega) (by omega)
  have key := wrBy_rp hW hE.1 hk hl hj v0 v1 hv
  have e3' : f_X12_isWrongBy 134 (i32 l) (i32 j) (i32 0) (sI M 150 (120 * l + j) (i32 (10000 * v + 1000 * A.df l j + A.vl l j))) = some (if harmRB S A l j v = true then i32 0 else i32 1, sI M 150 (120 * l + j) (i32 (10000 * v + 1000 * A.df l j + A.vl l j))) := by
    rw [e3]
    by_cases q : harmRB S A l j v = true
    · rw [if_pos q, if_neg (key.mpr ((harmRB_iff S A l j v).mp q))]
    · rw [if_neg q, if_pos (Classical.not_not.mp (fun z => q ((harmRB_iff S A l j v).mpr (key.mp z))))]
  have ep : f_X12_put 134 (i32 l) (i32 j) (i32 v) (i32 (A.df l j)) (i32 (A.vl l j)) M = some ((), sI M 150 (120 * l + j) (i32 (10000 * v + 1000 * A.df l j + A.vl l j))) := by
    simp (disch := omega) only [↓reduceIte, add_i0, cast_add1, cast_sub1, toNat120, i32_lit, i32_neg, i32_add, i32_sub, i32_mul, i32_nat, i32_le, i32_lt, i32_eq, inB_i, Int.toNat_natCast, mI_sI_eq, mI_sI_ne, mR_sR_eq, mR_sR_ne, mI_sR, mR_sI, mK_sI, mN_sI, mn_sI, mJ_sI, mK_sR, mN_sR, mn_sR, mJ_sR, mI_wI, mR_wI, mK_wI, mN_wI, mn_wI, mJ_wI, ↓bnd_of, ↓bndX_r, ↓bndX_l, ↓ap_of, bnd_of, bndX_r, bndX_l, if_true, if_false, ite_true, ite_false, not_true_eq_false, not_false_eq_true, Nat.reduceAdd, Nat.reduceMul, Nat.reduceEqDiff, Int.reduceToNat, Int.reduceNeg, Ilt_t, Ilt_f, Ile_t, Ile_f, Ieq_t, Ieq_f, Nlt_t, Nlt_f, Nle_t, Nle_f, Neq_t, Neq_f, or_true, true_or, or_false, false_or, and_true, true_and, and_false, false_and, ne_eq, or_self, and_self, decide_true, decide_false, Bool.false_eq_true, f_X12_put, hL.o]
  obtain ⟨M', t1, t2, t3⟩ := X12_try_tail hL (l := l) (j := j) (by omega) (by omega) (i32 (10000 * v + 1000 * A.df l j + A.vl l j)) (harmRB S A l j v) ((l : Int) * 10000 + (j : Int) * 20 + v) (by omega) hB hw
  refine ⟨M', ?_, t2, t3⟩
  rw [← t1]
  have hL2 : RLay (sI M 150 (120 * l + j) (i32 (10000 * v + 1000 * A.df l j + A.vl l j))) := hV2.1
  generalize hM2 : sI M 150 (120 * l + j) (i32 (10000 * v + 1000 * A.df l j + A.vl l j)) = M2 at *
  have hcode : i32 10000 * i32 l + i32 20 * i32 j + i32 10 * i32 0 + i32 v = i32 ((l : Int) * 10000 + (j : Int) * 20 + v) := by
    simp (disch := omega) only [↓reduceIte, add_i0, cast_add1, cast_sub1, toNat120, i32_lit, i32_neg, i32_add, i32_sub, i32_mul, i32_nat, i32_le, i32_lt, i32_eq, inB_i, Int.toNat_natCast, mI_sI_eq, mI_sI_ne, mR_sR_eq, mR_sR_ne, mI_sR, mR_sI, mK_sI, mN_sI, mn_sI, mJ_sI, mK_sR, mN_sR, mn_sR, mJ_sR, mI_wI, mR_wI, mK_wI, mN_wI, mn_wI, mJ_wI, ↓bnd_of, ↓bndX_r, ↓bndX_l, ↓ap_of, bnd_of, bndX_r, bndX_l, if_true, if_false, ite_true, ite_false, not_true_eq_false, not_false_eq_true, Nat.reduceAdd, Nat.reduceMul, Nat.reduceEqDiff, Int.reduceToNat, Int.reduceNeg, Ilt_t, Ilt_f, Ile_t, Ile_f, Ieq_t, Ieq_f, Nlt_t, Nlt_f, Nle_t, Nle_f, Neq_t, Neq_f, or_true, true_or, or_false, false_or, and_true, true_and, and_false, false_and, ne_eq, or_self, and_self, decide_true, decide_false, Bool.false_eq_true]
  have e45 : f_X12_tryLevel_45 134 (i32 l) (i32 j) (i32 0) (i32 v) (mI M 150 (120 * l + j)) (i32 v) (i32 (A.df l j)) M = (if harmRB S A l j v = true then (if mI M2 134 36 = i32 0 then f_X12_tryLevel_102 134 (i32 l) (i32 j) (mI M 150 (120 * l + j)) (sI M2 134 37 (i32 ((l : Int) * 10000 + (j : Int) * 20 + v))) else f_X12_tryLevel_102 134 (i32 l) (i32 j) (mI M 150 (120 * l + j)) M2) else f_X12_tryLevel_112 134 (i32 l) (i32 j) (mI M 150 (120 * l + j)) M2) := by
    by_cases q : harmRB S A l j v = true
    · rw [if_pos q] at e3' ⊢
      unfold f_X12_tryLevel_45
      rw [if_pos hL.o.1, bx e2, if_pos hL.o.1, bx ep, if_pos hL2.o.1, bx e3', if_pos (show i32 0 = (0 : Int32) from rfl), if_pos hL2.o.1]
      rw [← hcode]
      rfl
    · rw [if_neg q] at e3' ⊢
      unfold f_X12_tryLevel_45
      rw [if_pos hL.o.1, bx e2, if_pos hL.o.1, bx ep, if_pos hL2.o.1, bx e3', if_neg (by decide)]
  rw [← e45]
  simp (disch := omega) only [↓reduceIte, add_i0, cast_add1, cast_sub1, toNat120, i32_lit, i32_neg, i32_add, i32_sub, i32_mul, i32_nat, i32_le, i32_lt, i32_eq, inB_i, Int.toNat_natCast, mI_sI_eq, mI_sI_ne, mR_sR_eq, mR_sR_ne, mI_sR, mR_sI, mK_sI, mN_sI, mn_sI, mJ_sI, mK_sR, mN_sR, mn_sR, mJ_sR, mI_wI, mR_wI, mK_wI, mN_wI, mn_wI, mJ_wI, ↓bnd_of, ↓bndX_r, ↓bndX_l, ↓ap_of, bnd_of, bndX_r, bndX_l, if_true, if_false, ite_true, ite_false, not_true_eq_false, not_false_eq_true, Nat.reduceAdd, Nat.reduceMul, Nat.reduceEqDiff, Int.reduceToNat, Int.reduceNeg, Ilt_t, Ilt_f, Ile_t, Ile_f, Ieq_t, Ieq_f, Nlt_t, Nlt_f, Nle_t, Nle_f, Neq_t, Neq_f, or_true, true_or, or_false, false_or, and_true, true_and, and_false, false_and, ne_eq, or_self, and_self, decide_true, decide_false, Bool.false_eq_true, f_X12_tryLevel, f_X12_tryLevel_28, hL.o, ↓bx e1]
theorem X12_tryD (hW : S.wf) (hV : RV M S A) (hk : chkOk S A) {l j : Nat} (hl : l < S.nl) (hj : j < A.sz l) (v : Int) (v0 : 0 ≤ v) (v1 : v ≤ S.sd (S.fo l)) (hv : v ≠ A.df l j) {st : Int × Int} {B : Int} (hB : B ≤ 1000000) (hw : RW M st B) :
    ∃ M', f_X12_tryLevel 134 (i32 l) (i32 j) (i32 1) (i32 v) M = some ((), M') ∧ Scr M M' ∧ RW M' (hst (harmDB S A l j v) ((l : Int) * 10000 + (j : Int) * 20 + 10 + v) st) (B + 1) := by
  have hS := hW.1
  have hnl := hS.2.1
  have b3 := Sc.sd_b hS (S.fo l)
  have hL := hV.1
  have hE := hV.2.2
  have bz := St.b hE.1 l j
  have e1 := X12_repAt hL hE (l := l) (j := j) (by omega) hj
  have e2 := X12_valueAt hL hE (l := l) (j := j) (by omega) hj
  have hV2 := hV.ent (hE.wDf (by omega) hj v0 (by omega))
  have dc : Decidable (wrBy S (A.wDf l j v) l j 1) := Classical.propDecidable _
  have e3 := X12_isWrongBy hW hV2 hl (show j < (A.wDf l j v).sz l from hj) 1 (by omega) (by omega)
  have key := wrBy_df hW hE.1 hk hl hj v0 v1 hv
  have e3' : f_X12_isWrongBy 134 (i32 l) (i32 j) (i32 1) (sI M 150 (120 * l + j) (i32 (10000 * A.rp l j + 1000 * v + A.vl l j))) = some (if harmDB S A l j v = true then i32 0 else i32 1, sI M 150 (120 * l + j) (i32 (10000 * A.rp l j + 1000 * v + A.vl l j))) := by
    rw [e3]
    by_cases q : harmDB S A l j v = true
    · rw [if_pos q, if_neg (key.mpr ((harmDB_iff S A l j v).mp q))]
    · rw [if_neg q, if_pos (Classical.not_not.mp (fun z => q ((harmDB_iff S A l j v).mpr (key.mp z))))]
  have ep : f_X12_put 134 (i32 l) (i32 j) (i32 (A.rp l j)) (i32 v) (i32 (A.vl l j)) M = some ((), sI M 150 (120 * l + j) (i32 (10000 * A.rp l j + 1000 * v + A.vl l j))) := by
    simp (disch := omega) only [↓reduceIte, add_i0, cast_add1, cast_sub1, toNat120, i32_lit, i32_neg, i32_add, i32_sub, i32_mul, i32_nat, i32_le, i32_lt, i32_eq, inB_i, Int.toNat_natCast, mI_sI_eq, mI_sI_ne, mR_sR_eq, mR_sR_ne, mI_sR, mR_sI, mK_sI, mN_sI, mn_sI, mJ_sI, mK_sR, mN_sR, mn_sR, mJ_sR, mI_wI, mR_wI, mK_wI, mN_wI, mn_wI, mJ_wI, ↓bnd_of, ↓bndX_r, ↓bndX_l, ↓ap_of, bnd_of, bndX_r, bndX_l, if_true, if_false, ite_true, ite_false, not_true_eq_false, not_false_eq_true, Nat.reduceAdd, Nat.reduceMul, Nat.reduceEqDiff, Int.reduceToNat, Int.reduceNeg, Ilt_t, Ilt_f, Ile_t, Ile_f, Ieq_t, Ieq_f, Nlt_t, Nlt_f, Nle_t, Nle_f, Neq_t, Neq_f, or_true, true_or, or_false, false_or, and_true, true_and, and_false, false_and, ne_eq, or_self, and_self, decide_true, decide_false, Bool.false_eq_true, f_X12_put, hL.o]
  obtain ⟨M', t1, t2, t3⟩ := X12_try_tail hL (l := l) (j := j) (by omega) (by omega) (i32 (10000 * A.rp l j + 1000 * v + A.vl l j)) (harmDB S A l j v) ((l : Int) * 10000 + (j : Int) * 20 + 10 + v) (by omega) hB hw
  refine ⟨M', ?_, t2, t3⟩
  rw [← t1]
  have hL2 : RLay (sI M 150 (120 * l + j) (i32 (10000 * A.rp l j + 1000 * v + A.vl l j))) := hV2.1
  generalize hM2 : sI M 150 (120 * l + j) (i32 (10000 * A.rp l j + 1000 * v + A.vl l j)) = M2 at *
  have hcode : i32 10000 * i32 l + i32 20 * i32 j + i32 10 * i32 1 + i32 v = i32 ((l : Int) * 10000 + (j : Int) * 20 + 10 + v) := by
    simp (disch := omega) only [↓reduceIte, add_i0, cast_add1, cast_sub1, toNat120, i32_lit, i32_neg, i32_add, i32_sub, i32_mul, i32_nat, i32_le, i32_lt, i32_eq, inB_i, Int.toNat_natCast, mI_sI_eq, mI_sI_ne, mR_sR_eq, mR_sR_ne, mI_sR, mR_sI, mK_sI, mN_sI, mn_sI, mJ_sI, mK_sR, mN_sR, mn_sR, mJ_sR, mI_wI, mR_wI, mK_wI, mN_wI, mn_wI, mJ_wI, ↓bnd_of, ↓bndX_r, ↓bndX_l, ↓ap_of, bnd_of, bndX_r, bndX_l, if_true, if_false, ite_true, ite_false, not_true_eq_false, not_false_eq_true, Nat.reduceAdd, Nat.reduceMul, Nat.reduceEqDiff, Int.reduceToNat, Int.reduceNeg, Ilt_t, Ilt_f, Ile_t, Ile_f, Ieq_t, Ieq_f, Nlt_t, Nlt_f, Nle_t, Nle_f, Neq_t, Neq_f, or_true, true_or, or_false, false_or, and_true, true_and, and_false, false_and, ne_eq, or_self, and_self, decide_true, decide_false, Bool.false_eq_true]
  have e45 : f_X12_tryLevel_45 134 (i32 l) (i32 j) (i32 1) (i32 v) (mI M 150 (120 * l + j)) (i32 (A.rp l j)) (i32 v) M = (if harmDB S A l j v = true then (if mI M2 134 36 = i32 0 then f_X12_tryLevel_102 134 (i32 l) (i32 j) (mI M 150 (120 * l + j)) (sI M2 134 37 (i32 ((l : Int) * 10000 + (j : Int) * 20 + 10 + v))) else f_X12_tryLevel_102 134 (i32 l) (i32 j) (mI M 150 (120 * l + j)) M2) else f_X12_tryLevel_112 134 (i32 l) (i32 j) (mI M 150 (120 * l + j)) M2) := by
    by_cases q : harmDB S A l j v = true
    · rw [if_pos q] at e3' ⊢
      unfold f_X12_tryLevel_45
      rw [if_pos hL.o.1, bx e2, if_pos hL.o.1, bx ep, if_pos hL2.o.1, bx e3', if_pos (show i32 0 = (0 : Int32) from rfl), if_pos hL2.o.1]
      rw [← hcode]
      rfl
    · rw [if_neg q] at e3' ⊢
      unfold f_X12_tryLevel_45
      rw [if_pos hL.o.1, bx e2, if_pos hL.o.1, bx ep, if_pos hL2.o.1, bx e3', if_neg (by decide)]
  rw [← e45]
  simp (disch := omega) only [↓reduceIte, add_i0, cast_add1, cast_sub1, toNat120, i32_lit, i32_neg, i32_add, i32_sub, i32_mul, i32_nat, i32_le, i32_lt, i32_eq, inB_i, Int.toNat_natCast, mI_sI_eq, mI_sI_ne, mR_sR_eq, mR_sR_ne, mI_sR, mR_sI, mK_sI, mN_sI, mn_sI, mJ_sI, mK_sR, mN_sR, mn_sR, mJ_sR, mI_wI, mR_wI, mK_wI, mN_wI, mn_wI, mJ_wI, ↓bnd_of, ↓bndX_r, ↓bndX_l, ↓ap_of, bnd_of, bndX_r, bndX_l, if_true, if_false, ite_true, ite_false, not_true_eq_false, not_false_eq_true, Nat.reduceAdd, Nat.reduceMul, Nat.reduceEqDiff, Int.reduceToNat, Int.reduceNeg, Ilt_t, Ilt_f, Ile_t, Ile_f, Ieq_t, Ieq_f, Nlt_t, Nlt_f, Nle_t, Nle_f, Neq_t, Neq_f, or_true, true_or, or_false, false_or, and_true, true_and, and_false, false_and, ne_eq, or_self, and_self, decide_true, decide_false, Bool.false_eq_true, f_X12_tryLevel, f_X12_tryLevel_28, hL.o, ↓bx e1]
end
