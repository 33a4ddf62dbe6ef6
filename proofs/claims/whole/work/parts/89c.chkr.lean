/-! checked -/
section
variable {M : Mem} {S : Sc} {A : St}
theorem X12_checked (hW : S.wf) (hV : RV M S A) : f_X12_checked 134 M = some (i32 (chk S A).1, wrM M (chk S A).2.1 (chk S A).2.2) := by
  have hS := hW.1
  have h8 := hS.2.1
  have hw := fun l j => @X12_wrongAt M S A hW hV l j
  have hu := fun l => @X12_unlikeAhead M S A hW hV l
  obtain ⟨hL, hR, hE⟩ := hV
  have hfs := fun l => X12_firstsOf hL hE (l := l)
  have hwi := fun l e w => @X12_wrongIs M hL l e w
  obtain ⟨c0, c1, -⟩ := hR
  obtain ⟨hok, a1, a2, a3⟩ := hE
  have hr30 := hok.2.2.2.2
  have inner : ∀ (g : Nat → Int32 → Mem → Option (Int32 × Mem)) (l : Nat), l < S.nl → ∀ (k j n : Nat), j + k = A.sz l → k < n →
      f_X12_checked_14 g n 134 (i32 l) (i32 j) M = if (colW (wrongS S A l) k j).1 ≠ 0 then some (i32 (colW (wrongS S A l) k j).1, wrM M l (colW (wrongS S A l) k j).2) else if A.zs l ≠ A.rc then some (i32 4, wrM M l (A.sz l)) else if l = 0 ∨ unlS S A l = -1 then g 134 (i32 (l + 1 : Nat)) M else some (i32 5, wrM M l (unlS S A l)) := by
    intro g l hl k
    have hz := hok.2.2.2.1 l
    have hzs : A.zs l ≤ A.sz l := cnt_le (fun j => decide (A.rp l j = 0)) (A.sz l) 0
    have hfl := hfs l (by omega)
    rw [lp_zs] at hfl
    induction k with
    | zero =>
      intro j n hj hn
      obtain ⟨n, rfl⟩ : ∃ m, n = m + 1 := ⟨n - 1, by omega⟩
      by_cases d2 : A.zs l = A.rc
      · by_cases d3 : l = 0
        · subst d3
          simp (disch := omega) only [add_i0, cast_add1, cast_sub1, toNat120, i32_lit, i32_neg, i32_add, i32_sub, i32_mul, i32_nat, i32_le, i32_lt, i32_eq, inB_i, Int.toNat_natCast, mI_sI_eq, mI_sI_ne, mR_sR_eq, mR_sR_ne, mI_sR, mR_sI, mK_sI, mN_sI, mn_sI, mJ_sI, mK_sR, mN_sR, mn_sR, mJ_sR, mI_wI, mR_wI, mK_wI, mN_wI, mn_wI, mJ_wI, ↓bnd_of, ↓bndX_r, ↓bndX_l, ↓ap_of, if_true, if_false, ite_true, ite_false, not_true_eq_false, not_false_eq_true, Nat.reduceAdd, Nat.reduceMul, Nat.reduceEqDiff, Int.reduceToNat, Int.reduceNeg, Ilt_t, Ilt_f, Ile_t, Ile_f, Ieq_t, Ieq_f, Nlt_t, Nlt_f, Nle_t, Nle_f, Neq_t, Neq_f, or_true, true_or, or_false, false_or, and_true, true_and, and_false, false_and, ne_eq, or_self, and_self, decide_true, decide_false, Bool.false_eq_true, f_X12_checked_14, f_X12_checked_87, colW, hL.o, a1, a3, ↓bx hfl, d2, ne_eq, true_or]
          (first | done | with_reducible rfl | ((repeat' split) <;> (first | with_reducible rfl | (exfalso; omega) | grind)))
        · have hul := hu l hl (by omega)
          have hub := ulC_b S A l (A.sz l) 0 (behF (A.rp (l - 1)) (S.lev l (l - 1)) (A.sz (l - 1)) 0)
          have hue : unlS S A l = ulC S A l (A.sz l) 0 (behF (A.rp (l - 1)) (S.lev l (l - 1)) (A.sz (l - 1)) 0) := rfl
          rw [← hue] at hub
          by_cases d4 : unlS S A l = -1
          · simp (disch := omega) only [add_i0, cast_add1, cast_sub1, toNat120, i32_lit, i32_neg, i32_add, i32_sub, i32_mul, i32_nat, i32_le, i32_lt, i32_eq, inB_i, Int.toNat_natCast, mI_sI_eq, mI_sI_ne, mR_sR_eq, mR_sR_ne, mI_sR, mR_sI, mK_sI, mN_sI, mn_sI, mJ_sI, mK_sR, mN_sR, mn_sR, mJ_sR, mI_wI, mR_wI, mK_wI, mN_wI, mn_wI, mJ_wI, ↓bnd_of, ↓bndX_r, ↓bndX_l, ↓ap_of, if_true, if_false, ite_true, ite_false, not_true_eq_false, not_false_eq_true, Nat.reduceAdd, Nat.reduceMul, Nat.reduceEqDiff, Int.reduceToNat, Int.reduceNeg, Ilt_t, Ilt_f, Ile_t, Ile_f, Ieq_t, Ieq_f, Nlt_t, Nlt_f, Nle_t, Nle_f, Neq_t, Neq_f, or_true, true_or, or_false, false_or, and_true, true_and, and_false, false_and, ne_eq, or_self, and_self, decide_true, decide_false, Bool.false_eq_true, f_X12_checked_14, f_X12_checked_87, colW, hL.o, a1, a3, ↓bx hfl, d2, d3, d4, ↓bx hul, ne_eq, or_true]
          · simp (disch := omega) only [add_i0, cast_add1, cast_sub1, toNat120, i32_lit, i32_neg, i32_add, i32_sub, i32_mul, i32_nat, i32_le, i32_lt, i32_eq, inB_i, Int.toNat_natCast, mI_sI_eq, mI_sI_ne, mR_sR_eq, mR_sR_ne, mI_sR, mR_sI, mK_sI, mN_sI, mn_sI, mJ_sI, mK_sR, mN_sR, mn_sR, mJ_sR, mI_wI, mR_wI, mK_wI, mN_wI, mn_wI, mJ_wI, ↓bnd_of, ↓bndX_r, ↓bndX_l, ↓ap_of, if_true, if_false, ite_true, ite_false, not_true_eq_false, not_false_eq_true, Nat.reduceAdd, Nat.reduceMul, Nat.reduceEqDiff, Int.reduceToNat, Int.reduceNeg, Ilt_t, Ilt_f, Ile_t, Ile_f, Ieq_t, Ieq_f, Nlt_t, Nlt_f, Nle_t, Nle_f, Neq_t, Neq_f, or_true, true_or, or_false, false_or, and_true, true_and, and_false, false_and, ne_eq, or_self, and_self, decide_true, decide_false, Bool.false_eq_true, f_X12_checked_14, f_X12_checked_87, colW, hL.o, a1, a3, ↓bx hfl, d2, d3, d4, ↓bx hul, ne_eq, or_self, hwi]
      · simp (disch := omega) only [add_i0, cast_add1, cast_sub1, toNat120, i32_lit, i32_neg, i32_add, i32_sub, i32_mul, i32_nat, i32_le, i32_lt, i32_eq, inB_i, Int.toNat_natCast, mI_sI_eq, mI_sI_ne, mR_sR_eq, mR_sR_ne, mI_sR, mR_sI, mK_sI, mN_sI, mn_sI, mJ_sI, mK_sR, mN_sR, mn_sR, mJ_sR, mI_wI, mR_wI, mK_wI, mN_wI, mn_wI, mJ_wI, ↓bnd_of, ↓bndX_r, ↓bndX_l, ↓ap_of, if_true, if_false, ite_true, ite_false, not_true_eq_false, not_false_eq_true, Nat.reduceAdd, Nat.reduceMul, Nat.reduceEqDiff, Int.reduceToNat, Int.reduceNeg, Ilt_t, Ilt_f, Ile_t, Ile_f, Ieq_t, Ieq_f, Nlt_t, Nlt_f, Nle_t, Nle_f, Neq_t, Neq_f, or_true, true_or, or_false, false_or, and_true, true_and, and_false, false_and, ne_eq, or_self, and_self, decide_true, decide_false, Bool.false_eq_true, f_X12_checked_14, f_X12_checked_87, colW, hL.o, a1, a3, ↓bx hfl, d2, ne_eq, hwi]
    | succ k ih =>
      intro j n hj hn
      obtain ⟨n, rfl⟩ : ∃ m, n = m + 1 := ⟨n - 1, by omega⟩
      have b := wrongS_b S A l j
      have e := hw l j hl (by omega)
      by_cases d : wrongS S A l j = 0
      · simp (disch := omega) only [add_i0, cast_add1, cast_sub1, toNat120, i32_lit, i32_neg, i32_add, i32_sub, i32_mul, i32_nat, i32_le, i32_lt, i32_eq, inB_i, Int.toNat_natCast, mI_sI_eq, mI_sI_ne, mR_sR_eq, mR_sR_ne, mI_sR, mR_sI, mK_sI, mN_sI, mn_sI, mJ_sI, mK_sR, mN_sR, mn_sR, mJ_sR, mI_wI, mR_wI, mK_wI, mN_wI, mn_wI, mJ_wI, ↓bnd_of, ↓bndX_r, ↓bndX_l, ↓ap_of, if_true, if_false, ite_true, ite_false, not_true_eq_false, not_false_eq_true, Nat.reduceAdd, Nat.reduceMul, Nat.reduceEqDiff, Int.reduceToNat, Int.reduceNeg, Ilt_t, Ilt_f, Ile_t, Ile_f, Ieq_t, Ieq_f, Nlt_t, Nlt_f, Nle_t, Nle_f, Neq_t, Neq_f, or_true, true_or, or_false, false_or, and_true, true_and, and_false, false_and, ne_eq, or_self, and_self, decide_true, decide_false, Bool.false_eq_true, f_X12_checked_14, colW, hL.o, a1, ↓bx e, d, ih]
      · simp (disch := omega) only [add_i0, cast_add1, cast_sub1, toNat120, i32_lit, i32_neg, i32_add, i32_sub, i32_mul, i32_nat, i32_le, i32_lt, i32_eq, inB_i, Int.toNat_natCast, mI_sI_eq, mI_sI_ne, mR_sR_eq, mR_sR_ne, mI_sR, mR_sI, mK_sI, mN_sI, mn_sI, mJ_sI, mK_sR, mN_sR, mn_sR, mJ_sR, mI_wI, mR_wI, mK_wI, mN_wI, mn_wI, mJ_wI, ↓bnd_of, ↓bndX_r, ↓bndX_l, ↓ap_of, if_true, if_false, ite_true, ite_false, not_true_eq_false, not_false_eq_true, Nat.reduceAdd, Nat.reduceMul, Nat.reduceEqDiff, Int.reduceToNat, Int.reduceNeg, Ilt_t, Ilt_f, Ile_t, Ile_f, Ieq_t, Ieq_f, Nlt_t, Nlt_f, Nle_t, Nle_f, Neq_t, Neq_f, or_true, true_or, or_false, false_or, and_true, true_and, and_false, false_and, ne_eq, or_self, and_self, decide_true, decide_false, Bool.false_eq_true, f_X12_checked_14, colW, hL.o, a1, ↓bx e, d, ne_eq, hwi]
  have H : ∀ (k l n : Nat), l + k = S.nl → k < n → f_X12_checked_2 n 134 (i32 l) M = some (i32 (chkF S A k l).1, wrM M (chkF S A k l).2.1 (chkF S A k l).2.2) := by
    intro k
    induction k with
    | zero =>
      intro l n hl hn
      obtain ⟨n, rfl⟩ : ∃ m, n = m + 1 := ⟨n - 1, by omega⟩
      simp (disch := omega) only [add_i0, cast_add1, cast_sub1, toNat120, i32_lit, i32_neg, i32_add, i32_sub, i32_mul, i32_nat, i32_le, i32_lt, i32_eq, inB_i, Int.toNat_natCast, mI_sI_eq, mI_sI_ne, mR_sR_eq, mR_sR_ne, mI_sR, mR_sI, mK_sI, mN_sI, mn_sI, mJ_sI, mK_sR, mN_sR, mn_sR, mJ_sR, mI_wI, mR_wI, mK_wI, mN_wI, mn_wI, mJ_wI, ↓bnd_of, ↓bndX_r, ↓bndX_l, ↓ap_of, if_true, if_false, ite_true, ite_false, not_true_eq_false, not_false_eq_true, Nat.reduceAdd, Nat.reduceMul, Nat.reduceEqDiff, Int.reduceToNat, Int.reduceNeg, Ilt_t, Ilt_f, Ile_t, Ile_f, Ieq_t, Ieq_f, Nlt_t, Nlt_f, Nle_t, Nle_f, Neq_t, Neq_f, or_true, true_or, or_false, false_or, and_true, true_and, and_false, false_and, ne_eq, or_self, and_self, decide_true, decide_false, Bool.false_eq_true, f_X12_checked_2, chkF, hL.o, c1, hwi]
    | succ k ih =>
      intro l n hl hn
      obtain ⟨n, rfl⟩ : ∃ m, n = m + 1 := ⟨n - 1, by omega⟩
      have hz := hok.2.2.2.1 l
      have e := inner (f_X12_checked_2 n) l (by omega) (A.sz l) 0 FUEL (by omega) (by unfold FUEL; omega)
      have e0 : f_X12_checked_2 (n + 1) 134 (i32 l) M = f_X12_checked_14 (f_X12_checked_2 n) FUEL 134 (i32 l) (i32 (0 : Nat)) M := by
        simp (disch := omega) only [add_i0, cast_add1, cast_sub1, toNat120, i32_lit, i32_neg, i32_add, i32_sub, i32_mul, i32_nat, i32_le, i32_lt, i32_eq, inB_i, Int.toNat_natCast, mI_sI_eq, mI_sI_ne, mR_sR_eq, mR_sR_ne, mI_sR, mR_sI, mK_sI, mN_sI, mn_sI, mJ_sI, mK_sR, mN_sR, mn_sR, mJ_sR, mI_wI, mR_wI, mK_wI, mN_wI, mn_wI, mJ_wI, ↓bnd_of, ↓bndX_r, ↓bndX_l, ↓ap_of, if_true, if_false, ite_true, ite_false, not_true_eq_false, not_false_eq_true, Nat.reduceAdd, Nat.reduceMul, Nat.reduceEqDiff, Int.reduceToNat, Int.reduceNeg, Ilt_t, Ilt_f, Ile_t, Ile_f, Ieq_t, Ieq_f, Nlt_t, Nlt_f, Nle_t, Nle_f, Neq_t, Neq_f, or_true, true_or, or_false, false_or, and_true, true_and, and_false, false_and, ne_eq, or_self, and_self, decide_true, decide_false, Bool.false_eq_true, f_X12_checked_2, hL.o, c1]
        rfl
      rw [e0, e, ih (l + 1) n (by omega) (by omega)]
      simp only [chkF, chkL]
      by_cases d1 : (colW (wrongS S A l) (A.sz l) 0).1 = 0
      · by_cases d2 : A.zs l = A.rc
        · by_cases d3 : l = 0 ∨ unlS S A l = -1
          · simp [d1, d2, d3]
          · simp [d1, d2, d3]
        · simp [d1, d2]
      · simp [d1]
  have h := H S.nl 0 FUEL (by omega) (by unfold FUEL; omega)
  unfold f_X12_checked
  exact h
end
