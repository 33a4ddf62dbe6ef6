/-! The calls that only look: what both sides share -/
theorem i32_all (v : Int32) : ∃ z : Int, v = i32 z ∧ -2147483648 ≤ z ∧ z ≤ 2147483647 := ⟨v.toInt, (i32_of v).symm, by have := Int32.le_toInt v; omega, by have := Int32.toInt_lt v; omega⟩
/-- class and reference stand over the same schema and stripes -/
def RO (M : Mem) (s : Nat) (S : Sc) (A : St) : Prop := S.wf ∧ CV M s S A ∧ RV M S A ∧ mR M 1 8 = s
theorem RO.scr {M M' : Mem} {s : Nat} {S : Sc} {A : St} (h : RO M s S A) (g : Scr M M') : RO M' s S A := ⟨h.1, h.2.1.scr g, h.2.2.1.scr h.1.1 g, by rw [g.2.2.2.2.2 _ _ (by unfold ScR; omega)]; exact h.2.2.2⟩
/-- the reference has answered as told: a throw's number, or a value -/
def RA (M M' : Mem) (ans : Nat ⊕ Int32) (r : Int32) : Prop := Scr M M' ∧ match ans with
  | .inl e => mI M' 134 2 = i32 e
  | .inr v => mI M' 134 2 = i32 0 ∧ r = v
theorem zero_scr (M : Mem) (v : Int32) : Scr M (sI M 134 2 v) := (Scr.rf M).sI (by unfold ScI; omega)
theorem RA_ok {M M' : Mem} (g : Scr (sI M 134 2 (i32 0)) M') (h : mI M' 134 2 = i32 0) (v : Int32) : RA M M' (.inr v) v := ⟨(zero_scr M _).tr g, h, rfl⟩
theorem RA_ok0 {M : Mem} (v : Int32) : RA M (sI M 134 2 (i32 0)) (.inr v) v := RA_ok (Scr.rf _) (by simp (disch := omega) only [add_i0, cast_add1, cast_sub1, toNat120, i32_lit, i32_neg, i32_add, i32_sub, i32_mul, i32_nat, i32_le, i32_lt, i32_eq, inB_i, Int.toNat_natCast, mI_sI_eq, mI_sI_ne, mR_sR_eq, mR_sR_ne, mI_sR, mR_sI, mK_sI, mN_sI, mn_sI, mJ_sI, mK_sR, mN_sR, mn_sR, mJ_sR, mI_wI, mR_wI, mK_wI, mN_wI, mn_wI, mJ_wI, ↓bnd_of, ↓bndX_r, ↓bndX_l, ↓ap_of, if_true, if_false, ite_true, ite_false, not_true_eq_false, not_false_eq_true, Nat.reduceAdd, Nat.reduceMul, Nat.reduceEqDiff, Int.reduceToNat, Int.reduceNeg, Ilt_t, Ilt_f, Ile_t, Ile_f, Ieq_t, Ieq_f, Nlt_t, Nlt_f, Nle_t, Nle_f, Neq_t, Neq_f, or_true, true_or, or_false, false_or, and_true, true_and, and_false, false_and, ne_eq, or_self, and_self, decide_true, decide_false, Bool.false_eq_true]) v
theorem RA_fail {M M0 : Mem} (g : Scr M M0) (k : Nat) (r : Int32) : RA M (sI M0 134 2 (i32 k)) (.inl k) r := ⟨g.sI (by unfold ScI; omega), by simp (disch := omega) only [add_i0, cast_add1, cast_sub1, toNat120, i32_lit, i32_neg, i32_add, i32_sub, i32_mul, i32_nat, i32_le, i32_lt, i32_eq, inB_i, Int.toNat_natCast, mI_sI_eq, mI_sI_ne, mR_sR_eq, mR_sR_ne, mI_sR, mR_sI, mK_sI, mN_sI, mn_sI, mJ_sI, mK_sR, mN_sR, mn_sR, mJ_sR, mI_wI, mR_wI, mK_wI, mN_wI, mn_wI, mJ_wI, ↓bnd_of, ↓bndX_r, ↓bndX_l, ↓ap_of, if_true, if_false, ite_true, ite_false, not_true_eq_false, not_false_eq_true, Nat.reduceAdd, Nat.reduceMul, Nat.reduceEqDiff, Int.reduceToNat, Int.reduceNeg, Ilt_t, Ilt_f, Ile_t, Ile_f, Ieq_t, Ieq_f, Nlt_t, Nlt_f, Nle_t, Nle_f, Neq_t, Neq_f, or_true, true_or, or_false, false_or, and_true, true_and, and_false, false_and, ne_eq, or_self, and_self, decide_true, decide_false, Bool.false_eq_true]⟩
theorem RA_fail0 {M : Mem} (k : Nat) (r : Int32) : RA M (sI (sI M 134 2 (i32 0)) 134 2 (i32 k)) (.inl k) r := RA_fail (zero_scr M _) k r
theorem zB01 {c : Prop} [Decidable c] : (zB (if c then i32 1 else i32 0) = true) = True := by
  by_cases h : c <;> simp [h] <;> decide
theorem isIn_e (x y : Int32) (M : Mem) : f_X12_isIn x.toInt64 (0 : Int64) y.toInt64 M = some (if 0 ≤ x.toInt ∧ x.toInt ≤ y.toInt then i32 1 else i32 0, M) := by
  unfold f_X12_isIn
  have e0 : (0 : Int64).toInt = 0 := rfl
  have h1 : (lg_cmp x.toInt64 0 < 0) = (x.toInt < 0) := by rw [lg_cmp_lt, Int64.lt_iff_toInt_lt, Int32.toInt_toInt64, e0]
  have h2 : (0 < lg_cmp x.toInt64 y.toInt64) = (y.toInt < x.toInt) := by rw [lg_cmp_gt, Int64.lt_iff_toInt_lt, Int32.toInt_toInt64, Int32.toInt_toInt64]
  simp only [h1, h2]
  simp only [i32_lit]
  (first | done | with_reducible rfl | ((repeat' split) <;> (first | with_reducible rfl | (exfalso; omega) | grind)))
theorem isIn_b {β : Type} (x y : Int32) (M : Mem) (f : Int32 → Mem → Option β) : bnd (f_X12_isIn x.toInt64 (0 : Int64) y.toInt64 M) f = f (if 0 ≤ x.toInt ∧ x.toInt ≤ y.toInt then i32 1 else i32 0) M := bx (isIn_e x y M) f
section
variable {M : Mem} {s : Nat} {S : Sc} {A : St}
theorem X11_needLeaf (hV : CV M s S A) (h8 : mR M 1 8 = s) (hS : S.ok) (z : Int) (z1 : -2147483648 ≤ z) (z2 : z ≤ 2147483647) : f_X11_needLeaf 1 (i32 z) M = some (if 0 ≤ z ∧ z < S.nl then .inr () else .inl 1, M) := by
  obtain ⟨hL, hc, hs, hC, -⟩ := hV
  have c1 := hC.2.1
  have b := hS.2.1
  simp (disch := omega) only [add_i0, cast_add1, cast_sub1, toNat120, i32_lit, i32_neg, i32_add, i32_sub, i32_mul, i32_nat, i32_le, i32_lt, i32_eq, inB_i, Int.toNat_natCast, mI_sI_eq, mI_sI_ne, mR_sR_eq, mR_sR_ne, mI_sR, mR_sI, mK_sI, mN_sI, mn_sI, mJ_sI, mK_sR, mN_sR, mn_sR, mJ_sR, mI_wI, mR_wI, mK_wI, mN_wI, mn_wI, mJ_wI, ↓bnd_of, ↓bndX_r, ↓bndX_l, ↓ap_of, if_true, if_false, ite_true, ite_false, not_true_eq_false, not_false_eq_true, Nat.reduceAdd, Nat.reduceMul, Nat.reduceEqDiff, Int.reduceToNat, Int.reduceNeg, Ilt_t, Ilt_f, Ile_t, Ile_f, Ieq_t, Ieq_f, Nlt_t, Nlt_f, Nle_t, Nle_f, Neq_t, Neq_f, or_true, true_or, or_false, false_or, and_true, true_and, and_false, false_and, ne_eq, or_self, and_self, decide_true, decide_false, Bool.false_eq_true, f_X11_needLeaf, f_X11_needLeaf_15, hL.o, h8, hs.o, c1]
  (first | done | with_reducible rfl | ((repeat' split) <;> (first | with_reducible rfl | (exfalso; omega) | grind)))
theorem X11_needField (hV : CV M s S A) (h8 : mR M 1 8 = s) (hS : S.ok) (z : Int) (z1 : -2147483648 ≤ z) (z2 : z ≤ 2147483647) : f_X11_needField 1 (i32 z) M = some (if 0 ≤ z ∧ z < S.nf then .inr () else .inl 1, M) := by
  obtain ⟨hL, hc, hs, hC, -⟩ := hV
  have c0 := hC.1
  have b := hS.1
  simp (disch := omega) only [add_i0, cast_add1, cast_sub1, toNat120, i32_lit, i32_neg, i32_add, i32_sub, i32_mul, i32_nat, i32_le, i32_lt, i32_eq, inB_i, Int.toNat_natCast, mI_sI_eq, mI_sI_ne, mR_sR_eq, mR_sR_ne, mI_sR, mR_sI, mK_sI, mN_sI, mn_sI, mJ_sI, mK_sR, mN_sR, mn_sR, mJ_sR, mI_wI, mR_wI, mK_wI, mN_wI, mn_wI, mJ_wI, ↓bnd_of, ↓bndX_r, ↓bndX_l, ↓ap_of, if_true, if_false, ite_true, ite_false, not_true_eq_false, not_false_eq_true, Nat.reduceAdd, Nat.reduceMul, Nat.reduceEqDiff, Int.reduceToNat, Int.reduceNeg, Ilt_t, Ilt_f, Ile_t, Ile_f, Ieq_t, Ieq_f, Nlt_t, Nlt_f, Nle_t, Nle_f, Neq_t, Neq_f, or_true, true_or, or_false, false_or, and_true, true_and, and_false, false_and, ne_eq, or_self, and_self, decide_true, decide_false, Bool.false_eq_true, f_X11_needField, f_X11_needField_15, hL.o, h8, hs.o, c0]
  (first | done | with_reducible rfl | ((repeat' split) <;> (first | with_reducible rfl | (exfalso; omega) | grind)))
theorem X11_needRecord (hV : CV M s S A) (z : Int) (z1 : -2147483648 ≤ z) (z2 : z ≤ 2147483647) : f_X11_needRecord 1 (i32 z) M = some (if 0 ≤ z ∧ z < A.rc then .inr () else .inl 1, M) := by
  obtain ⟨hL, hc, hs, hC, hA, hr, -⟩ := hV
  have b := hA.1.2.2.2.2
  simp (disch := omega) only [add_i0, cast_add1, cast_sub1, toNat120, i32_lit, i32_neg, i32_add, i32_sub, i32_mul, i32_nat, i32_le, i32_lt, i32_eq, inB_i, Int.toNat_natCast, mI_sI_eq, mI_sI_ne, mR_sR_eq, mR_sR_ne, mI_sR, mR_sI, mK_sI, mN_sI, mn_sI, mJ_sI, mK_sR, mN_sR, mn_sR, mJ_sR, mI_wI, mR_wI, mK_wI, mN_wI, mn_wI, mJ_wI, ↓bnd_of, ↓bndX_r, ↓bndX_l, ↓ap_of, if_true, if_false, ite_true, ite_false, not_true_eq_false, not_false_eq_true, Nat.reduceAdd, Nat.reduceMul, Nat.reduceEqDiff, Int.reduceToNat, Int.reduceNeg, Ilt_t, Ilt_f, Ile_t, Ile_f, Ieq_t, Ieq_f, Nlt_t, Nlt_f, Nle_t, Nle_f, Neq_t, Neq_f, or_true, true_or, or_false, false_or, and_true, true_and, and_false, false_and, ne_eq, or_self, and_self, decide_true, decide_false, Bool.false_eq_true, f_X11_needRecord, f_X11_needRecord_15, hL.o, hr]
  (first | done | with_reducible rfl | ((repeat' split) <;> (first | with_reducible rfl | (exfalso; omega) | grind)))
theorem X11_needEntry (hV : CV M s S A) (h8 : mR M 1 8 = s) (hS : S.ok) (l j : Int) (z1 : -2147483648 ≤ l) (z2 : l ≤ 2147483647) (z3 : -2147483648 ≤ j) (z4 : j ≤ 2147483647) : f_X11_needEntry 1 (i32 l) (i32 j) M = some (if 0 ≤ l ∧ l < S.nl ∧ 0 ≤ j ∧ j < A.sz l.toNat then .inr () else .inl 1, M) := by
  have hn := X11_needLeaf hV h8 hS l z1 z2
  obtain ⟨hL, hc, hs, hC, hA, hr, -⟩ := hV
  have b := hS.2.1
  have hcol := hc.2.2.2.2.2.2.2.2.2.2
  simp only [Nat.reduceSub] at hcol
  by_cases d : 0 ≤ l ∧ l < S.nl
  · rw [if_pos d] at hn
    have b2 := hA.1.2.2.2.1 l.toNat
    have hz := hA.2.1 l.toNat (by omega)
    simp (disch := omega) only [add_i0, cast_add1, cast_sub1, toNat120, i32_lit, i32_neg, i32_add, i32_sub, i32_mul, i32_nat, i32_le, i32_lt, i32_eq, inB_i, Int.toNat_natCast, mI_sI_eq, mI_sI_ne, mR_sR_eq, mR_sR_ne, mI_sR, mR_sI, mK_sI, mN_sI, mn_sI, mJ_sI, mK_sR, mN_sR, mn_sR, mJ_sR, mI_wI, mR_wI, mK_wI, mN_wI, mn_wI, mJ_wI, ↓bnd_of, ↓bndX_r, ↓bndX_l, ↓ap_of, if_true, if_false, ite_true, ite_false, not_true_eq_false, not_false_eq_true, Nat.reduceAdd, Nat.reduceMul, Nat.reduceEqDiff, Int.reduceToNat, Int.reduceNeg, Ilt_t, Ilt_f, Ile_t, Ile_f, Ieq_t, Ieq_f, Nlt_t, Nlt_f, Nle_t, Nle_f, Neq_t, Neq_f, or_true, true_or, or_false, false_or, and_true, true_and, and_false, false_and, ne_eq, or_self, and_self, decide_true, decide_false, Bool.false_eq_true, f_X11_needEntry, f_X11_needEntry_25, hL.o, ↓bxX hn, hcol, hc, hz]
    (first | done | with_reducible rfl | ((repeat' split) <;> (first | with_reducible rfl | (exfalso; omega) | grind)))
  · rw [if_neg d] at hn
    simp (disch := omega) only [add_i0, cast_add1, cast_sub1, toNat120, i32_lit, i32_neg, i32_add, i32_sub, i32_mul, i32_nat, i32_le, i32_lt, i32_eq, inB_i, Int.toNat_natCast, mI_sI_eq, mI_sI_ne, mR_sR_eq, mR_sR_ne, mI_sR, mR_sI, mK_sI, mN_sI, mn_sI, mJ_sI, mK_sR, mN_sR, mn_sR, mJ_sR, mI_wI, mR_wI, mK_wI, mN_wI, mn_wI, mJ_wI, ↓bnd_of, ↓bndX_r, ↓bndX_l, ↓ap_of, if_true, if_false, ite_true, ite_false, not_true_eq_false, not_false_eq_true, Nat.reduceAdd, Nat.reduceMul, Nat.reduceEqDiff, Int.reduceToNat, Int.reduceNeg, Ilt_t, Ilt_f, Ile_t, Ile_f, Ieq_t, Ieq_f, Nlt_t, Nlt_f, Nle_t, Nle_f, Neq_t, Neq_f, or_true, true_or, or_false, false_or, and_true, true_and, and_false, false_and, ne_eq, or_self, and_self, decide_true, decide_false, Bool.false_eq_true, f_X11_needEntry, f_X11_needEntry_25, hL.o, ↓bxL hn]
    (first | done | with_reducible rfl | ((repeat' split) <;> (first | with_reducible rfl | (exfalso; omega) | grind)))
theorem X12_isLeaf (hV : RV M S A) (hS : S.ok) (z : Int) (z1 : -2147483648 ≤ z) (z2 : z ≤ 2147483647) : f_X12_isLeaf 134 (i32 z) M = some (if 0 ≤ z ∧ z < S.nl then i32 1 else i32 0, M) := by
  obtain ⟨hL, hR, hE⟩ := hV
  have c1 := hR.2.1
  have b := hS.2.1
  simp (disch := omega) only [add_i0, cast_add1, cast_sub1, toNat120, i32_lit, i32_neg, i32_add, i32_sub, i32_mul, i32_nat, i32_le, i32_lt, i32_eq, inB_i, Int.toNat_natCast, mI_sI_eq, mI_sI_ne, mR_sR_eq, mR_sR_ne, mI_sR, mR_sI, mK_sI, mN_sI, mn_sI, mJ_sI, mK_sR, mN_sR, mn_sR, mJ_sR, mI_wI, mR_wI, mK_wI, mN_wI, mn_wI, mJ_wI, ↓bnd_of, ↓bndX_r, ↓bndX_l, ↓ap_of, if_true, if_false, ite_true, ite_false, not_true_eq_false, not_false_eq_true, Nat.reduceAdd, Nat.reduceMul, Nat.reduceEqDiff, Int.reduceToNat, Int.reduceNeg, Ilt_t, Ilt_f, Ile_t, Ile_f, Ieq_t, Ieq_f, Nlt_t, Nlt_f, Nle_t, Nle_f, Neq_t, Neq_f, or_true, true_or, or_false, false_or, and_true, true_and, and_false, false_and, ne_eq, or_self, and_self, decide_true, decide_false, Bool.false_eq_true, f_X12_isLeaf, hL.o, ↓isIn_b, c1, zB01, i32_toInt]
  (first | done | with_reducible rfl | ((repeat' split) <;> (first | with_reducible rfl | (exfalso; omega) | grind)))
theorem X12_isField (hV : RV M S A) (hS : S.ok) (z : Int) (z1 : -2147483648 ≤ z) (z2 : z ≤ 2147483647) : f_X12_isField 134 (i32 z) M = some (if 0 ≤ z ∧ z < S.nf then i32 1 else i32 0, M) := by
  obtain ⟨hL, hR, hE⟩ := hV
  have c1 := hR.1
  have b := hS.1
  simp (disch := omega) only [add_i0, cast_add1, cast_sub1, toNat120, i32_lit, i32_neg, i32_add, i32_sub, i32_mul, i32_nat, i32_le, i32_lt, i32_eq, inB_i, Int.toNat_natCast, mI_sI_eq, mI_sI_ne, mR_sR_eq, mR_sR_ne, mI_sR, mR_sI, mK_sI, mN_sI, mn_sI, mJ_sI, mK_sR, mN_sR, mn_sR, mJ_sR, mI_wI, mR_wI, mK_wI, mN_wI, mn_wI, mJ_wI, ↓bnd_of, ↓bndX_r, ↓bndX_l, ↓ap_of, if_true, if_false, ite_true, ite_false, not_true_eq_false, not_false_eq_true, Nat.reduceAdd, Nat.reduceMul, Nat.reduceEqDiff, Int.reduceToNat, Int.reduceNeg, Ilt_t, Ilt_f, Ile_t, Ile_f, Ieq_t, Ieq_f, Nlt_t, Nlt_f, Nle_t, Nle_f, Neq_t, Neq_f, or_true, true_or, or_false, false_or, and_true, true_and, and_false, false_and, ne_eq, or_self, and_self, decide_true, decide_false, Bool.false_eq_true, f_X12_isField, hL.o, ↓isIn_b, c1, zB01, i32_toInt]
  (first | done | with_reducible rfl | ((repeat' split) <;> (first | with_reducible rfl | (exfalso; omega) | grind)))
theorem X12_isRecord (hV : RV M S A) (z : Int) (z1 : -2147483648 ≤ z) (z2 : z ≤ 2147483647) : f_X12_isRecord 134 (i32 z) M = some (if 0 ≤ z ∧ z < A.rc then i32 1 else i32 0, M) := by
  obtain ⟨hL, hR, hE⟩ := hV
  have c1 := hE.2.2.2
  have b := hE.1.2.2.2.2
  simp (disch := omega) only [add_i0, cast_add1, cast_sub1, toNat120, i32_lit, i32_neg, i32_add, i32_sub, i32_mul, i32_nat, i32_le, i32_lt, i32_eq, inB_i, Int.toNat_natCast, mI_sI_eq, mI_sI_ne, mR_sR_eq, mR_sR_ne, mI_sR, mR_sI, mK_sI, mN_sI, mn_sI, mJ_sI, mK_sR, mN_sR, mn_sR, mJ_sR, mI_wI, mR_wI, mK_wI, mN_wI, mn_wI, mJ_wI, ↓bnd_of, ↓bndX_r, ↓bndX_l, ↓ap_of, if_true, if_false, ite_true, ite_false, not_true_eq_false, not_false_eq_true, Nat.reduceAdd, Nat.reduceMul, Nat.reduceEqDiff, Int.reduceToNat, Int.reduceNeg, Ilt_t, Ilt_f, Ile_t, Ile_f, Ieq_t, Ieq_f, Nlt_t, Nlt_f, Nle_t, Nle_f, Neq_t, Neq_f, or_true, true_or, or_false, false_or, and_true, true_and, and_false, false_and, ne_eq, or_self, and_self, decide_true, decide_false, Bool.false_eq_true, f_X12_isRecord, hL.o, ↓isIn_b, c1, zB01, i32_toInt]
  (first | done | with_reducible rfl | ((repeat' split) <;> (first | with_reducible rfl | (exfalso; omega) | grind)))
theorem X12_isEntry (hV : RV M S A) (hS : S.ok) (l j : Int) (z1 : -2147483648 ≤ l) (z2 : l ≤ 2147483647) (z3 : -2147483648 ≤ j) (z4 : j ≤ 2147483647) : f_X12_isEntry 134 (i32 l) (i32 j) M = some (if 0 ≤ l ∧ l < S.nl ∧ 0 ≤ j ∧ j < A.sz l.toNat then i32 1 else i32 0, M) := by
  have hn := X12_isLeaf hV hS l z1 z2
  obtain ⟨hL, hR, hE⟩ := hV
  have b := hS.2.1
  by_cases d : 0 ≤ l ∧ l < S.nl
  · rw [if_pos d] at hn
    have b2 := hE.1.2.2.2.1 l.toNat
    have hz := hE.2.1 l.toNat (by omega)
    simp (disch := omega) only [add_i0, cast_add1, cast_sub1, toNat120, i32_lit, i32_neg, i32_add, i32_sub, i32_mul, i32_nat, i32_le, i32_lt, i32_eq, inB_i, Int.toNat_natCast, mI_sI_eq, mI_sI_ne, mR_sR_eq, mR_sR_ne, mI_sR, mR_sI, mK_sI, mN_sI, mn_sI, mJ_sI, mK_sR, mN_sR, mn_sR, mJ_sR, mI_wI, mR_wI, mK_wI, mN_wI, mn_wI, mJ_wI, ↓bnd_of, ↓bndX_r, ↓bndX_l, ↓ap_of, if_true, if_false, ite_true, ite_false, not_true_eq_false, not_false_eq_true, Nat.reduceAdd, Nat.reduceMul, Nat.reduceEqDiff, Int.reduceToNat, Int.reduceNeg, Ilt_t, Ilt_f, Ile_t, Ile_f, Ieq_t, Ieq_f, Nlt_t, Nlt_f, Nle_t, Nle_f, Neq_t, Neq_f, or_true, true_or, or_false, false_or, and_true, true_and, and_false, false_and, ne_eq, or_self, and_self, decide_true, decide_false, Bool.false_eq_true, f_X12_isEntry, hL.o, ↓bx hn, ↓isIn_b, hz, i32_toInt, ite10]
    (first | done | with_reducible rfl | ((repeat' split) <;> (first | with_reducible rfl | (exfalso; omega) | grind)))
  · rw [if_neg d] at hn
    simp (disch := omega) only [add_i0, cast_add1, cast_sub1, toNat120, i32_lit, i32_neg, i32_add, i32_sub, i32_mul, i32_nat, i32_le, i32_lt, i32_eq, inB_i, Int.toNat_natCast, mI_sI_eq, mI_sI_ne, mR_sR_eq, mR_sR_ne, mI_sR, mR_sI, mK_sI, mN_sI, mn_sI, mJ_sI, mK_sR, mN_sR, mn_sR, mJ_sR, mI_wI, mR_wI, mK_wI, mN_wI, mn_wI, mJ_wI, ↓bnd_of, ↓bndX_r, ↓bndX_l, ↓ap_of, if_true, if_false, ite_true, ite_false, not_true_eq_false, not_false_eq_true, Nat.reduceAdd, Nat.reduceMul, Nat.reduceEqDiff, Int.reduceToNat, Int.reduceNeg, Ilt_t, Ilt_f, Ile_t, Ile_f, Ieq_t, Ieq_f, Nlt_t, Nlt_f, Nle_t, Nle_f, Neq_t, Neq_f, or_true, true_or, or_false, false_or, and_true, true_and, and_false, false_and, ne_eq, or_self, and_self, decide_true, decide_false, Bool.false_eq_true, f_X12_isEntry, hL.o, ↓bx hn]
    (first | done | with_reducible rfl | ((repeat' split) <;> (first | with_reducible rfl | (exfalso; omega) | grind)))
theorem X12_fail (hL : RLay M) (k : Int) : f_X12_fail 134 (i32 k) M = some (i32 0, sI M 134 2 (i32 k)) := by
  simp (disch := omega) only [add_i0, cast_add1, cast_sub1, toNat120, i32_lit, i32_neg, i32_add, i32_sub, i32_mul, i32_nat, i32_le, i32_lt, i32_eq, inB_i, Int.toNat_natCast, mI_sI_eq, mI_sI_ne, mR_sR_eq, mR_sR_ne, mI_sR, mR_sI, mK_sI, mN_sI, mn_sI, mJ_sI, mK_sR, mN_sR, mn_sR, mJ_sR, mI_wI, mR_wI, mK_wI, mN_wI, mn_wI, mJ_wI, ↓bnd_of, ↓bndX_r, ↓bndX_l, ↓ap_of, if_true, if_false, ite_true, ite_false, not_true_eq_false, not_false_eq_true, Nat.reduceAdd, Nat.reduceMul, Nat.reduceEqDiff, Int.reduceToNat, Int.reduceNeg, Ilt_t, Ilt_f, Ile_t, Ile_f, Ieq_t, Ieq_f, Nlt_t, Nlt_f, Nle_t, Nle_f, Neq_t, Neq_f, or_true, true_or, or_false, false_or, and_true, true_and, and_false, false_and, ne_eq, or_self, and_self, decide_true, decide_false, Bool.false_eq_true, f_X12_fail, hL.o]
/-! entry -/
def a_entry (S : Sc) (A : St) (l j w : Int) : Nat ⊕ Int32 := if 0 ≤ l ∧ l < S.nl ∧ 0 ≤ j ∧ j < A.sz l.toNat then (if w = 0 then .inr (i32 (A.rp l.toNat j.toNat)) else if w = 1 then .inr (i32 (A.df l.toNat j.toNat)) else if w = 2 then .inr (if A.df l.toNat j.toNat = S.fu l.toNat then i32 (A.vl l.toNat j.toNat) else i32 (-1)) else .inl 1) else .inl 1
theorem c_entry (h : RO M s S A) (l j w : Int) (z1 : -2147483648 ≤ l) (z2 : l ≤ 2147483647) (z3 : -2147483648 ≤ j) (z4 : j ≤ 2147483647) (z5 : -2147483648 ≤ w) (z6 : w ≤ 2147483647) : f_X11_entry 1 (i32 l) (i32 j) (i32 w) M = some (a_entry S A l j w, M) := by
  obtain ⟨hW, hV, -, h8⟩ := h
  have hn := X11_needEntry hV h8 hW.1 l j z1 z2 z3 z4
  have b := hW.1.2.1
  obtain ⟨hL, hc, hs, hC, hA, hr, -⟩ := hV
  have hcol := hc.2.2.2.2.2.2.2.2.2.2
  simp only [Nat.reduceSub] at hcol
  unfold a_entry
  by_cases d : 0 ≤ l ∧ l < S.nl ∧ 0 ≤ j ∧ j < A.sz l.toNat
  · rw [if_pos d] at hn ⊢
    obtain ⟨l, rfl⟩ : ∃ k : Nat, l = k := ⟨l.toNat, by omega⟩
    obtain ⟨j, rfl⟩ : ∃ k : Nat, j = k := ⟨j.toNat, by omega⟩
    simp only [Int.toNat_natCast] at d ⊢
    have hv := X2_hasValue hc hA (l := l) (by omega) (j := j) (by omega)
    have b1 := St.b hA.1 l j
    obtain ⟨hok, a1, a2, a3, a4, -⟩ := hA
    simp (disch := omega) only [add_i0, cast_add1, cast_sub1, toNat120, i32_lit, i32_neg, i32_add, i32_sub, i32_mul, i32_nat, i32_le, i32_lt, i32_eq, inB_i, Int.toNat_natCast, mI_sI_eq, mI_sI_ne, mR_sR_eq, mR_sR_ne, mI_sR, mR_sI, mK_sI, mN_sI, mn_sI, mJ_sI, mK_sR, mN_sR, mn_sR, mJ_sR, mI_wI, mR_wI, mK_wI, mN_wI, mn_wI, mJ_wI, ↓bnd_of, ↓bndX_r, ↓bndX_l, ↓ap_of, if_true, if_false, ite_true, ite_false, not_true_eq_false, not_false_eq_true, Nat.reduceAdd, Nat.reduceMul, Nat.reduceEqDiff, Int.reduceToNat, Int.reduceNeg, Ilt_t, Ilt_f, Ile_t, Ile_f, Ieq_t, Ieq_f, Nlt_t, Nlt_f, Nle_t, Nle_f, Neq_t, Neq_f, or_true, true_or, or_false, false_or, and_true, true_and, and_false, false_and, ne_eq, or_self, and_self, decide_true, decide_false, Bool.false_eq_true, f_X11_entry, hL.o, ↓bxX hn, hcol, hc, a2, a3, a4, hv, ite10]
    (first | done | with_reducible rfl | ((repeat' split) <;> (first | with_reducible rfl | (exfalso; omega) | grind)))
  · rw [if_neg d] at hn ⊢
    simp (disch := omega) only [add_i0, cast_add1, cast_sub1, toNat120, i32_lit, i32_neg, i32_add, i32_sub, i32_mul, i32_nat, i32_le, i32_lt, i32_eq, inB_i, Int.toNat_natCast, mI_sI_eq, mI_sI_ne, mR_sR_eq, mR_sR_ne, mI_sR, mR_sI, mK_sI, mN_sI, mn_sI, mJ_sI, mK_sR, mN_sR, mn_sR, mJ_sR, mI_wI, mR_wI, mK_wI, mN_wI, mn_wI, mJ_wI, ↓bnd_of, ↓bndX_r, ↓bndX_l, ↓ap_of, if_true, if_false, ite_true, ite_false, not_true_eq_false, not_false_eq_true, Nat.reduceAdd, Nat.reduceMul, Nat.reduceEqDiff, Int.reduceToNat, Int.reduceNeg, Ilt_t, Ilt_f, Ile_t, Ile_f, Ieq_t, Ieq_f, Nlt_t, Nlt_f, Nle_t, Nle_f, Neq_t, Neq_f, or_true, true_or, or_false, false_or, and_true, true_and, and_false, false_and, ne_eq, or_self, and_self, decide_true, decide_false, Bool.false_eq_true, f_X11_entry, hL.o, ↓bxL hn]
theorem r_entry (hW : S.wf) (hV : RV M S A) (l j w : Int) (z1 : -2147483648 ≤ l) (z2 : l ≤ 2147483647) (z3 : -2147483648 ≤ j) (z4 : j ≤ 2147483647) (z5 : -2147483648 ≤ w) (z6 : w ≤ 2147483647) : ∃ r M', f_X12_entry 134 (i32 l) (i32 j) (i32 w) M = some (r, M') ∧ RA M M' (a_entry S A l j w) r := by
  have hV0 := hV.scr hW.1 (zero_scr M (i32 0))
  have hn := X12_isEntry hV0 hW.1 l j z1 z2 z3 z4
  have hf := X12_fail hV0.1 1
  have b := hW.1.2.1
  have hL := hV.1
  unfold a_entry
  by_cases d : 0 ≤ l ∧ l < S.nl ∧ 0 ≤ j ∧ j < A.sz l.toNat
  · rw [if_pos d] at hn ⊢
    obtain ⟨l, rfl⟩ : ∃ k : Nat, l = k := ⟨l.toNat, by omega⟩
    obtain ⟨j, rfl⟩ : ∃ k : Nat, j = k := ⟨j.toNat, by omega⟩
    simp only [Int.toNat_natCast] at d ⊢
    have e1 := X12_repAt hV0.1 hV0.2.2 (l := l) (j := j) (by omega) (by omega)
    have e2 := X12_defAt hV0.1 hV0.2.2 (l := l) (j := j) (by omega) (by omega)
    have e3 := X12_valueAt hV0.1 hV0.2.2 (l := l) (j := j) (by omega) (by omega)
    have e4 := X12_hasValue hV0.1 hW.1 hV0.2.1 hV0.2.2 (l := l) (j := j) (by omega) (by omega)
    by_cases w0 : w = 0
    · subst w0
      refine ⟨_, _, ?_, RA_ok0 _⟩
      simp (disch := omega) only [add_i0, cast_add1, cast_sub1, toNat120, i32_lit, i32_neg, i32_add, i32_sub, i32_mul, i32_nat, i32_le, i32_lt, i32_eq, inB_i, Int.toNat_natCast, mI_sI_eq, mI_sI_ne, mR_sR_eq, mR_sR_ne, mI_sR, mR_sI, mK_sI, mN_sI, mn_sI, mJ_sI, mK_sR, mN_sR, mn_sR, mJ_sR, mI_wI, mR_wI, mK_wI, mN_wI, mn_wI, mJ_wI, ↓bnd_of, ↓bndX_r, ↓bndX_l, ↓ap_of, if_true, if_false, ite_true, ite_false, not_true_eq_false, not_false_eq_true, Nat.reduceAdd, Nat.reduceMul, Nat.reduceEqDiff, Int.reduceToNat, Int.reduceNeg, Ilt_t, Ilt_f, Ile_t, Ile_f, Ieq_t, Ieq_f, Nlt_t, Nlt_f, Nle_t, Nle_f, Neq_t, Neq_f, or_true, true_or, or_false, false_or, and_true, true_and, and_false, false_and, ne_eq, or_self, and_self, decide_true, decide_false, Bool.false_eq_true, f_X12_entry, hL.o, ↓bx hn, e1]
    · by_cases w1 : w = 1
      · subst w1
        refine ⟨_, _, ?_, RA_ok0 _⟩
        simp (disch := omega) only [add_i0, cast_add1, cast_sub1, toNat120, i32_lit, i32_neg, i32_add, i32_sub, i32_mul, i32_nat, i32_le, i32_lt, i32_eq, inB_i, Int.toNat_natCast, mI_sI_eq, mI_sI_ne, mR_sR_eq, mR_sR_ne, mI_sR, mR_sI, mK_sI, mN_sI, mn_sI, mJ_sI, mK_sR, mN_sR, mn_sR, mJ_sR, mI_wI, mR_wI, mK_wI, mN_wI, mn_wI, mJ_wI, ↓bnd_of, ↓bndX_r, ↓bndX_l, ↓ap_of, if_true, if_false, ite_true, ite_false, not_true_eq_false, not_false_eq_true, Nat.reduceAdd, Nat.reduceMul, Nat.reduceEqDiff, Int.reduceToNat, Int.reduceNeg, Ilt_t, Ilt_f, Ile_t, Ile_f, Ieq_t, Ieq_f, Nlt_t, Nlt_f, Nle_t, Nle_f, Neq_t, Neq_f, or_true, true_or, or_false, false_or, and_true, true_and, and_false, false_and, ne_eq, or_self, and_self, decide_true, decide_false, Bool.false_eq_true, f_X12_entry, hL.o, ↓bx hn, e2]
      · by_cases w2 : w = 2
        · subst w2
          refine ⟨_, _, ?_, RA_ok0 _⟩
          simp (disch := omega) only [add_i0, cast_add1, cast_sub1, toNat120, i32_lit, i32_neg, i32_add, i32_sub, i32_mul, i32_nat, i32_le, i32_lt, i32_eq, inB_i, Int.toNat_natCast, mI_sI_eq, mI_sI_ne, mR_sR_eq, mR_sR_ne, mI_sR, mR_sI, mK_sI, mN_sI, mn_sI, mJ_sI, mK_sR, mN_sR, mn_sR, mJ_sR, mI_wI, mR_wI, mK_wI, mN_wI, mn_wI, mJ_wI, ↓bnd_of, ↓bndX_r, ↓bndX_l, ↓ap_of, if_true, if_false, ite_true, ite_false, not_true_eq_false, not_false_eq_true, Nat.reduceAdd, Nat.reduceMul, Nat.reduceEqDiff, Int.reduceToNat, Int.reduceNeg, Ilt_t, Ilt_f, Ile_t, Ile_f, Ieq_t, Ieq_f, Nlt_t, Nlt_f, Nle_t, Nle_f, Neq_t, Neq_f, or_true, true_or, or_false, false_or, and_true, true_and, and_false, false_and, ne_eq, or_self, and_self, decide_true, decide_false, Bool.false_eq_true, f_X12_entry, hL.o, ↓bx hn, ↓bx e4, e3, ite10]
          (first | done | with_reducible rfl | ((repeat' split) <;> (first | with_reducible rfl | (exfalso; omega) | grind)))
        · simp only [w0, w1, w2, if_false]
          refine ⟨_, _, ?_, RA_fail0 1 (i32 0)⟩
          simp (disch := omega) only [add_i0, cast_add1, cast_sub1, toNat120, i32_lit, i32_neg, i32_add, i32_sub, i32_mul, i32_nat, i32_le, i32_lt, i32_eq, inB_i, Int.toNat_natCast, mI_sI_eq, mI_sI_ne, mR_sR_eq, mR_sR_ne, mI_sR, mR_sI, mK_sI, mN_sI, mn_sI, mJ_sI, mK_sR, mN_sR, mn_sR, mJ_sR, mI_wI, mR_wI, mK_wI, mN_wI, mn_wI, mJ_wI, ↓bnd_of, ↓bndX_r, ↓bndX_l, ↓ap_of, if_true, if_false, ite_true, ite_false, not_true_eq_false, not_false_eq_true, Nat.reduceAdd, Nat.reduceMul, Nat.reduceEqDiff, Int.reduceToNat, Int.reduceNeg, Ilt_t, Ilt_f, Ile_t, Ile_f, Ieq_t, Ieq_f, Nlt_t, Nlt_f, Nle_t, Nle_f, Neq_t, Neq_f, or_true, true_or, or_false, false_or, and_true, true_and, and_false, false_and, ne_eq, or_self, and_self, decide_true, decide_false, Bool.false_eq_true, f_X12_entry, hL.o, ↓bx hn, hf]
          rfl
  · rw [if_neg d] at hn ⊢
    refine ⟨_, _, ?_, RA_fail0 1 (i32 0)⟩
    simp (disch := omega) only [add_i0, cast_add1, cast_sub1, toNat120, i32_lit, i32_neg, i32_add, i32_sub, i32_mul, i32_nat, i32_le, i32_lt, i32_eq, inB_i, Int.toNat_natCast, mI_sI_eq, mI_sI_ne, mR_sR_eq, mR_sR_ne, mI_sR, mR_sI, mK_sI, mN_sI, mn_sI, mJ_sI, mK_sR, mN_sR, mn_sR, mJ_sR, mI_wI, mR_wI, mK_wI, mN_wI, mn_wI, mJ_wI, ↓bnd_of, ↓bndX_r, ↓bndX_l, ↓ap_of, if_true, if_false, ite_true, ite_false, not_true_eq_false, not_false_eq_true, Nat.reduceAdd, Nat.reduceMul, Nat.reduceEqDiff, Int.reduceToNat, Int.reduceNeg, Ilt_t, Ilt_f, Ile_t, Ile_f, Ieq_t, Ieq_f, Nlt_t, Nlt_f, Nle_t, Nle_f, Neq_t, Neq_f, or_true, true_or, or_false, false_or, and_true, true_and, and_false, false_and, ne_eq, or_self, and_self, decide_true, decide_false, Bool.false_eq_true, f_X12_entry, hL.o, ↓bx hn, hf]
    rfl
end
