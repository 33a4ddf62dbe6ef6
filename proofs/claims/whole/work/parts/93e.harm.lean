/-! HARMLESS in the reference -/
theorem sI_back (M : Mem) (a k : Nat) (v : Int32) : sI (sI M a k v) a k (mI M a k) = M := by
  have : up2 (mI (sI M a k v)) a k (mI M a k) = mI M := by
    funext b j
    unfold up2
    by_cases c : b = a ∧ j = k
    · rw [if_pos c, c.1, c.2]
    · rw [if_neg c]
      exact if_neg c
  unfold sI at this ⊢
  show (mK M, mN M, up2 _ a k (mI M a k), mR M, mJ M, mn M) = M
  rw [this]
  rfl
theorem sI_comm (M : Mem) {a k b j : Nat} (v w : Int32) (h : a ≠ b ∨ k ≠ j) : sI (sI M a k v) b j w = sI (sI M b j w) a k v := by
  have : up2 (mI (sI M a k v)) b j w = up2 (mI (sI M b j w)) a k v := by
    funext c i
    show (if c = b ∧ i = j then w else if c = a ∧ i = k then v else mI M c i) = if c = a ∧ i = k then v else if c = b ∧ i = j then w else mI M c i
    by_cases c1 : c = b ∧ i = j
    · rw [if_pos c1, if_neg (by omega), if_pos c1]
    · rw [if_neg c1, if_neg c1]
  show (mK M, mN M, up2 _ b j w, mR M, mJ M, mn M) = (mK M, mN M, up2 _ a k v, mR M, mJ M, mn M)
  rw [this]
section
variable {M : Mem} {S : Sc} {A : St}
theorem St.ok_wRp (hA : A.ok) (l j : Nat) {v : Int} (v0 : 0 ≤ v) (v9 : v ≤ 9) : (A.wRp l j v).ok := by
  refine ⟨fun a b => ?_, hA.2.1, hA.2.2.1, hA.2.2.2.1, hA.2.2.2.2⟩
  show 0 ≤ (if a = l ∧ b = j then v else A.rp a b) ∧ (if a = l ∧ b = j then v else A.rp a b) ≤ 9
  have := hA.1 a b
  split <;> omega
theorem St.ok_wDf (hA : A.ok) (l j : Nat) {v : Int} (v0 : 0 ≤ v) (v9 : v ≤ 9) : (A.wDf l j v).ok := by
  refine ⟨hA.1, fun a b => ?_, hA.2.2.1, hA.2.2.2.1, hA.2.2.2.2⟩
  show 0 ≤ (if a = l ∧ b = j then v else A.df a b) ∧ (if a = l ∧ b = j then v else A.df a b) ≤ 9
  have := hA.2.1 a b
  split <;> omega
theorem X12_isWrongBy (hW : S.wf) (hV : RV M S A) {l j : Nat} (hl : l < S.nl) (hj : j < A.sz l) (w : Int) (w0 : 0 ≤ w) (w1 : w ≤ 1) [Decidable (wrBy S A l j w)] : f_X12_isWrongBy 134 (i32 l) (i32 j) (i32 w) M = some (if wrBy S A l j w then i32 1 else i32 0, M) := by
  have hS := hW.1
  have hnl := hS.2.1
  have hL := hV.1
  have e1 := X12_wrongAt hW hV hl hj
  have e2 := fun h => X12_wrongAt hW hV hl (j := j + 1) h
  have eu := fun l hl => X12_unlikeAhead hW hV (l := l) hl
  have b1 := wrongS_b S A l j
  have b2 := wrongS_b S A l (j + 1)
  have ub : ∀ l, -1 ≤ unlS S A l ∧ unlS S A l ≤ 120 := fun l => by
    have q := ulC_b S A l (A.sz l) 0 (behF (A.rp (l - 1)) (S.lev l (l - 1)) (A.sz (l - 1)) 0)
    have z := hV.2.2.1.2.2.2.1 l
    have : unlS S A l = ulC S A l (A.sz l) 0 (behF (A.rp (l - 1)) (S.lev l (l - 1)) (A.sz (l - 1)) 0) := rfl
    omega
  have u1 := ub l
  have u2 := ub (l + 1)
  have hfs := X12_firstsOf hV.1 hV.2.2 (l := l) (by omega)
  rw [lp_zs] at hfs
  have hzs : A.zs l ≤ A.sz l := cnt_le (fun j => decide (A.rp l j = 0)) (A.sz l) 0
  have bz := St.b hV.2.2.1 l j
  have a1 := hV.2.2.2.1 l (by omega)
  have a3 := hV.2.2.2.2.2
  have c1 := hV.2.1.2.1
  have ka := k_add1
  have t65 : f_X12_isWrongBy_65 134 (i32 l) M = some (if l + 1 < S.nl ∧ unlS S A (l + 1) ≠ -1 then i32 1 else i32 0, M) := by
    by_cases d : l + 1 < S.nl
    · have e3 := eu (l + 1) d (by omega)
      unfold f_X12_isWrongBy_65 f_X12_isWrongBy_88
      simp only [ka]
      by_cases d2 : unlS S A (l + 1) = -1
      · simp (disch := omega) only [↓reduceIte, add_i0, cast_add1, cast_sub1, toNat120, i32_lit, i32_neg, i32_add, i32_sub, i32_mul, i32_nat, i32_le, i32_lt, i32_eq, inB_i, Int.toNat_natCast, mI_sI_eq, mI_sI_ne, mR_sR_eq, mR_sR_ne, mI_sR, mR_sI, mK_sI, mN_sI, mn_sI, mJ_sI, mK_sR, mN_sR, mn_sR, mJ_sR, mI_wI, mR_wI, mK_wI, mN_wI, mn_wI, mJ_wI, ↓bnd_of, ↓bndX_r, ↓bndX_l, ↓ap_of, bnd_of, bndX_r, bndX_l, if_true, if_false, ite_true, ite_false, not_true_eq_false, not_false_eq_true, Nat.reduceAdd, Nat.reduceMul, Nat.reduceEqDiff, Int.reduceToNat, Int.reduceNeg, Ilt_t, Ilt_f, Ile_t, Ile_f, Ieq_t, Ieq_f, Nlt_t, Nlt_f, Nle_t, Nle_f, Neq_t, Neq_f, or_true, true_or, or_false, false_or, and_true, true_and, and_false, false_and, ne_eq, or_self, and_self, decide_true, decide_false, Bool.false_eq_true, hL.o, c1, ↓bx e3, d2]
      · simp (disch := omega) only [↓reduceIte, add_i0, cast_add1, cast_sub1, toNat120, i32_lit, i32_neg, i32_add, i32_sub, i32_mul, i32_nat, i32_le, i32_lt, i32_eq, inB_i, Int.toNat_natCast, mI_sI_eq, mI_sI_ne, mR_sR_eq, mR_sR_ne, mI_sR, mR_sI, mK_sI, mN_sI, mn_sI, mJ_sI, mK_sR, mN_sR, mn_sR, mJ_sR, mI_wI, mR_wI, mK_wI, mN_wI, mn_wI, mJ_wI, ↓bnd_of, ↓bndX_r, ↓bndX_l, ↓ap_of, bnd_of, bndX_r, bndX_l, if_true, if_false, ite_true, ite_false, not_true_eq_false, not_false_eq_true, Nat.reduceAdd, Nat.reduceMul, Nat.reduceEqDiff, Int.reduceToNat, Int.reduceNeg, Ilt_t, Ilt_f, Ile_t, Ile_f, Ieq_t, Ieq_f, Nlt_t, Nlt_f, Nle_t, Nle_f, Neq_t, Neq_f, or_true, true_or, or_false, false_or, and_true, true_and, and_false, false_and, ne_eq, or_self, and_self, decide_true, decide_false, Bool.false_eq_true, hL.o, c1, ↓bx e3, d2]
    · simp (disch := omega) only [↓reduceIte, add_i0, cast_add1, cast_sub1, toNat120, i32_lit, i32_neg, i32_add, i32_sub, i32_mul, i32_nat, i32_le, i32_lt, i32_eq, inB_i, Int.toNat_natCast, mI_sI_eq, mI_sI_ne, mR_sR_eq, mR_sR_ne, mI_sR, mR_sI, mK_sI, mN_sI, mn_sI, mJ_sI, mK_sR, mN_sR, mn_sR, mJ_sR, mI_wI, mR_wI, mK_wI, mN_wI, mn_wI, mJ_wI, ↓bnd_of, ↓bndX_r, ↓bndX_l, ↓ap_of, bnd_of, bndX_r, bndX_l, if_true, if_false, ite_true, ite_false, not_true_eq_false, not_false_eq_true, Nat.reduceAdd, Nat.reduceMul, Nat.reduceEqDiff, Int.reduceToNat, Int.reduceNeg, Ilt_t, Ilt_f, Ile_t, Ile_f, Ieq_t, Ieq_f, Nlt_t, Nlt_f, Nle_t, Nle_f, Neq_t, Neq_f, or_true, true_or, or_false, false_or, and_true, true_and, and_false, false_and, ne_eq, or_self, and_self, decide_true, decide_false, Bool.false_eq_true, f_X12_isWrongBy_65, hL.o, c1]
  have t52 : f_X12_isWrongBy_52 134 (i32 l) M = some (if (0 < l ∧ unlS S A l ≠ -1) ∨ (l + 1 < S.nl ∧ unlS S A (l + 1) ≠ -1) then i32 1 else i32 0, M) := by
    by_cases d : 0 < l
    · have e3 := eu l hl (by omega)
      by_cases d2 : unlS S A l = -1
      · have e : f_X12_isWrongBy_52 134 (i32 l) M = f_X12_isWrongBy_65 134 (i32 l) M := by
          simp (disch := omega) only [↓reduceIte, add_i0, cast_add1, cast_sub1, toNat120, i32_lit, i32_neg, i32_add, i32_sub, i32_mul, i32_nat, i32_le, i32_lt, i32_eq, inB_i, Int.toNat_natCast, mI_sI_eq, mI_sI_ne, mR_sR_eq, mR_sR_ne, mI_sR, mR_sI, mK_sI, mN_sI, mn_sI, mJ_sI, mK_sR, mN_sR, mn_sR, mJ_sR, mI_wI, mR_wI, mK_wI, mN_wI, mn_wI, mJ_wI, ↓bnd_of, ↓bndX_r, ↓bndX_l, ↓ap_of, bnd_of, bndX_r, bndX_l, if_true, if_false, ite_true, ite_false, not_true_eq_false, not_false_eq_true, Nat.reduceAdd, Nat.reduceMul, Nat.reduceEqDiff, Int.reduceToNat, Int.reduceNeg, Ilt_t, Ilt_f, Ile_t, Ile_f, Ieq_t, Ieq_f, Nlt_t, Nlt_f, Nle_t, Nle_f, Neq_t, Neq_f, or_true, true_or, or_false, false_or, and_true, true_and, and_false, false_and, ne_eq, or_self, and_self, decide_true, decide_false, Bool.false_eq_true, f_X12_isWrongBy_52, hL.o, ↓bx e3, d2]
        rw [e, t65]
        simp only [d2, ne_eq, not_true_eq_false, and_false, false_or]
      · simp (disch := omega) only [↓reduceIte, add_i0, cast_add1, cast_sub1, toNat120, i32_lit, i32_neg, i32_add, i32_sub, i32_mul, i32_nat, i32_le, i32_lt, i32_eq, inB_i, Int.toNat_natCast, mI_sI_eq, mI_sI_ne, mR_sR_eq, mR_sR_ne, mI_sR, mR_sI, mK_sI, mN_sI, mn_sI, mJ_sI, mK_sR, mN_sR, mn_sR, mJ_sR, mI_wI, mR_wI, mK_wI, mN_wI, mn_wI, mJ_wI, ↓bnd_of, ↓bndX_r, ↓bndX_l, ↓ap_of, bnd_of, bndX_r, bndX_l, if_true, if_false, ite_true, ite_false, not_true_eq_false, not_false_eq_true, Nat.reduceAdd, Nat.reduceMul, Nat.reduceEqDiff, Int.reduceToNat, Int.reduceNeg, Ilt_t, Ilt_f, Ile_t, Ile_f, Ieq_t, Ieq_f, Nlt_t, Nlt_f, Nle_t, Nle_f, Neq_t, Neq_f, or_true, true_or, or_false, false_or, and_true, true_and, and_false, false_and, ne_eq, or_self, and_self, decide_true, decide_false, Bool.false_eq_true, f_X12_isWrongBy_52, f_X12_isWrongBy_88, hL.o, ↓bx e3, d2]
    · have e : f_X12_isWrongBy_52 134 (i32 l) M = f_X12_isWrongBy_65 134 (i32 l) M := by
        simp (disch := omega) only [↓reduceIte, add_i0, cast_add1, cast_sub1, toNat120, i32_lit, i32_neg, i32_add, i32_sub, i32_mul, i32_nat, i32_le, i32_lt, i32_eq, inB_i, Int.toNat_natCast, mI_sI_eq, mI_sI_ne, mR_sR_eq, mR_sR_ne, mI_sR, mR_sI, mK_sI, mN_sI, mn_sI, mJ_sI, mK_sR, mN_sR, mn_sR, mJ_sR, mI_wI, mR_wI, mK_wI, mN_wI, mn_wI, mJ_wI, ↓bnd_of, ↓bndX_r, ↓bndX_l, ↓ap_of, bnd_of, bndX_r, bndX_l, if_true, if_false, ite_true, ite_false, not_true_eq_false, not_false_eq_true, Nat.reduceAdd, Nat.reduceMul, Nat.reduceEqDiff, Int.reduceToNat, Int.reduceNeg, Ilt_t, Ilt_f, Ile_t, Ile_f, Ieq_t, Ieq_f, Nlt_t, Nlt_f, Nle_t, Nle_f, Neq_t, Neq_f, or_true, true_or, or_false, false_or, and_true, true_and, and_false, false_and, ne_eq, or_self, and_self, decide_true, decide_false, Bool.false_eq_true, f_X12_isWrongBy_52]
      rw [e, t65]
      simp only [d, false_and, false_or]
  have t34 : f_X12_isWrongBy_34 134 (i32 l) (i32 w) M = some (if (w = 0 ∧ A.zs l ≠ A.rc) ∨ (0 < l ∧ unlS S A l ≠ -1) ∨ (l + 1 < S.nl ∧ unlS S A (l + 1) ≠ -1) then i32 1 else i32 0, M) := by
    by_cases d : w = 0
    · by_cases d2 : A.zs l = A.rc
      · have e : f_X12_isWrongBy_34 134 (i32 l) (i32 w) M = f_X12_isWrongBy_52 134 (i32 l) M := by
          simp (disch := omega) only [↓reduceIte, add_i0, cast_add1, cast_sub1, toNat120, i32_lit, i32_neg, i32_add, i32_sub, i32_mul, i32_nat, i32_le, i32_lt, i32_eq, inB_i, Int.toNat_natCast, mI_sI_eq, mI_sI_ne, mR_sR_eq, mR_sR_ne, mI_sR, mR_sI, mK_sI, mN_sI, mn_sI, mJ_sI, mK_sR, mN_sR, mn_sR, mJ_sR, mI_wI, mR_wI, mK_wI, mN_wI, mn_wI, mJ_wI, ↓bnd_of, ↓bndX_r, ↓bndX_l, ↓ap_of, bnd_of, bndX_r, bndX_l, if_true, if_false, ite_true, ite_false, not_true_eq_false, not_false_eq_true, Nat.reduceAdd, Nat.reduceMul, Nat.reduceEqDiff, Int.reduceToNat, Int.reduceNeg, Ilt_t, Ilt_f, Ile_t, Ile_f, Ieq_t, Ieq_f, Nlt_t, Nlt_f, Nle_t, Nle_f, Neq_t, Neq_f, or_true, true_or, or_false, false_or, and_true, true_and, and_false, false_and, ne_eq, or_self, and_self, decide_true, decide_false, Bool.false_eq_true, f_X12_isWrongBy_34, hL.o, ↓bx hfs, a3, d2]
        rw [e, t52]
        simp only [d2, ne_eq, not_true_eq_false, and_false, false_or]
      · rw [if_pos (Or.inl ⟨d, d2⟩)]
        simp (disch := omega) only [↓reduceIte, add_i0, cast_add1, cast_sub1, toNat120, i32_lit, i32_neg, i32_add, i32_sub, i32_mul, i32_nat, i32_le, i32_lt, i32_eq, inB_i, Int.toNat_natCast, mI_sI_eq, mI_sI_ne, mR_sR_eq, mR_sR_ne, mI_sR, mR_sI, mK_sI, mN_sI, mn_sI, mJ_sI, mK_sR, mN_sR, mn_sR, mJ_sR, mI_wI, mR_wI, mK_wI, mN_wI, mn_wI, mJ_wI, ↓bnd_of, ↓bndX_r, ↓bndX_l, ↓ap_of, bnd_of, bndX_r, bndX_l, if_true, if_false, ite_true, ite_false, not_true_eq_false, not_false_eq_true, Nat.reduceAdd, Nat.reduceMul, Nat.reduceEqDiff, Int.reduceToNat, Int.reduceNeg, Ilt_t, Ilt_f, Ile_t, Ile_f, Ieq_t, Ieq_f, Nlt_t, Nlt_f, Nle_t, Nle_f, Neq_t, Neq_f, or_true, true_or, or_false, false_or, and_true, true_and, and_false, false_and, ne_eq, or_self, and_self, decide_true, decide_false, Bool.false_eq_true, f_X12_isWrongBy_34, hL.o, ↓bx hfs, a3]
    · have e : f_X12_isWrongBy_34 134 (i32 l) (i32 w) M = f_X12_isWrongBy_52 134 (i32 l) M := by
        simp (disch := omega) only [↓reduceIte, add_i0, cast_add1, cast_sub1, toNat120, i32_lit, i32_neg, i32_add, i32_sub, i32_mul, i32_nat, i32_le, i32_lt, i32_eq, inB_i, Int.toNat_natCast, mI_sI_eq, mI_sI_ne, mR_sR_eq, mR_sR_ne, mI_sR, mR_sI, mK_sI, mN_sI, mn_sI, mJ_sI, mK_sR, mN_sR, mn_sR, mJ_sR, mI_wI, mR_wI, mK_wI, mN_wI, mn_wI, mJ_wI, ↓bnd_of, ↓bndX_r, ↓bndX_l, ↓ap_of, bnd_of, bndX_r, bndX_l, if_true, if_false, ite_true, ite_false, not_true_eq_false, not_false_eq_true, Nat.reduceAdd, Nat.reduceMul, Nat.reduceEqDiff, Int.reduceToNat, Int.reduceNeg, Ilt_t, Ilt_f, Ile_t, Ile_f, Ieq_t, Ieq_f, Nlt_t, Nlt_f, Nle_t, Nle_f, Neq_t, Neq_f, or_true, true_or, or_false, false_or, and_true, true_and, and_false, false_and, ne_eq, or_self, and_self, decide_true, decide_false, Bool.false_eq_true, f_X12_isWrongBy_34]
      rw [e, t52]
      simp only [d, false_and, false_or]
  by_cases d1 : wrongS S A l j = 0
  · by_cases d2 : j + 1 < A.sz l
    · have e3 := e2 d2
      by_cases d3 : wrongS S A l (j + 1) = 0
      · have e : f_X12_isWrongBy 134 (i32 l) (i32 j) (i32 w) M = f_X12_isWrongBy_34 134 (i32 l) (i32 w) M := by
          unfold f_X12_isWrongBy
          simp only [ka]
          simp (disch := omega) only [↓reduceIte, add_i0, cast_add1, cast_sub1, toNat120, i32_lit, i32_neg, i32_add, i32_sub, i32_mul, i32_nat, i32_le, i32_lt, i32_eq, inB_i, Int.toNat_natCast, mI_sI_eq, mI_sI_ne, mR_sR_eq, mR_sR_ne, mI_sR, mR_sI, mK_sI, mN_sI, mn_sI, mJ_sI, mK_sR, mN_sR, mn_sR, mJ_sR, mI_wI, mR_wI, mK_wI, mN_wI, mn_wI, mJ_wI, ↓bnd_of, ↓bndX_r, ↓bndX_l, ↓ap_of, bnd_of, bndX_r, bndX_l, if_true, if_false, ite_true, ite_false, not_true_eq_false, not_false_eq_true, Nat.reduceAdd, Nat.reduceMul, Nat.reduceEqDiff, Int.reduceToNat, Int.reduceNeg, Ilt_t, Ilt_f, Ile_t, Ile_f, Ieq_t, Ieq_f, Nlt_t, Nlt_f, Nle_t, Nle_f, Neq_t, Neq_f, or_true, true_or, or_false, false_or, and_true, true_and, and_false, false_and, ne_eq, or_self, and_self, decide_true, decide_false, Bool.false_eq_true, hL.o, ↓bx e1, d1, a1, ↓bx e3, d3]
        rw [e, t34]
        congr 2
        refine ite_congr ?_ (fun _ => rfl) (fun _ => rfl)
        unfold wrBy
        simp only [d1, d3, ne_eq, not_true_eq_false, and_false, false_or]
      · have hwr : wrBy S A l j w := Or.inr (Or.inl ⟨d2, d3⟩)
        rw [if_pos hwr]
        unfold f_X12_isWrongBy
        simp only [ka]
        simp (disch := omega) only [↓reduceIte, add_i0, cast_add1, cast_sub1, toNat120, i32_lit, i32_neg, i32_add, i32_sub, i32_mul, i32_nat, i32_le, i32_lt, i32_eq, inB_i, Int.toNat_natCast, mI_sI_eq, mI_sI_ne, mR_sR_eq, mR_sR_ne, mI_sR, mR_sI, mK_sI, mN_sI, mn_sI, mJ_sI, mK_sR, mN_sR, mn_sR, mJ_sR, mI_wI, mR_wI, mK_wI, mN_wI, mn_wI, mJ_wI, ↓bnd_of, ↓bndX_r, ↓bndX_l, ↓ap_of, bnd_of, bndX_r, bndX_l, if_true, if_false, ite_true, ite_false, not_true_eq_false, not_false_eq_true, Nat.reduceAdd, Nat.reduceMul, Nat.reduceEqDiff, Int.reduceToNat, Int.reduceNeg, Ilt_t, Ilt_f, Ile_t, Ile_f, Ieq_t, Ieq_f, Nlt_t, Nlt_f, Nle_t, Nle_f, Neq_t, Neq_f, or_true, true_or, or_false, false_or, and_true, true_and, and_false, false_and, ne_eq, or_self, and_self, decide_true, decide_false, Bool.false_eq_true, hL.o, ↓bx e1, d1, a1, ↓bx e3, d3]
    · have e : f_X12_isWrongBy 134 (i32 l) (i32 j) (i32 w) M = f_X12_isWrongBy_34 134 (i32 l) (i32 w) M := by
        unfold f_X12_isWrongBy
        simp only [ka]
        simp (disch := omega) only [↓reduceIte, add_i0, cast_add1, cast_sub1, toNat120, i32_lit, i32_neg, i32_add, i32_sub, i32_mul, i32_nat, i32_le, i32_lt, i32_eq, inB_i, Int.toNat_natCast, mI_sI_eq, mI_sI_ne, mR_sR_eq, mR_sR_ne, mI_sR, mR_sI, mK_sI, mN_sI, mn_sI, mJ_sI, mK_sR, mN_sR, mn_sR, mJ_sR, mI_wI, mR_wI, mK_wI, mN_wI, mn_wI, mJ_wI, ↓bnd_of, ↓bndX_r, ↓bndX_l, ↓ap_of, bnd_of, bndX_r, bndX_l, if_true, if_false, ite_true, ite_false, not_true_eq_false, not_false_eq_true, Nat.reduceAdd, Nat.reduceMul, Nat.reduceEqDiff, Int.reduceToNat, Int.reduceNeg, Ilt_t, Ilt_f, Ile_t, Ile_f, Ieq_t, Ieq_f, Nlt_t, Nlt_f, Nle_t, Nle_f, Neq_t, Neq_f, or_true, true_or, or_false, false_or, and_true, true_and, and_false, false_and, ne_eq, or_self, and_self, decide_true, decide_false, Bool.false_eq_true, hL.o, ↓bx e1, d1, a1]
      rw [e, t34]
      congr 2
      refine ite_congr ?_ (fun _ => rfl) (fun _ => rfl)
      unfold wrBy
      simp only [d1, d2, ne_eq, not_true_eq_false, false_and, false_or]
  · have hwr : wrBy S A l j w := Or.inl d1
    rw [if_pos hwr]
    simp (disch := omega) only [↓reduceIte, add_i0, cast_add1, cast_sub1, toNat120, i32_lit, i32_neg, i32_add, i32_sub, i32_mul, i32_nat, i32_le, i32_lt, i32_eq, inB_i, Int.toNat_natCast, mI_sI_eq, mI_sI_ne, mR_sR_eq, mR_sR_ne, mI_sR, mR_sI, mK_sI, mN_sI, mn_sI, mJ_sI, mK_sR, mN_sR, mn_sR, mJ_sR, mI_wI, mR_wI, mK_wI, mN_wI, mn_wI, mJ_wI, ↓bnd_of, ↓bndX_r, ↓bndX_l, ↓ap_of, bnd_of, bndX_r, bndX_l, if_true, if_false, ite_true, ite_false, not_true_eq_false, not_false_eq_true, Nat.reduceAdd, Nat.reduceMul, Nat.reduceEqDiff, Int.reduceToNat, Int.reduceNeg, Ilt_t, Ilt_f, Ile_t, Ile_f, Ieq_t, Ieq_f, Nlt_t, Nlt_f, Nle_t, Nle_f, Neq_t, Neq_f, or_true, true_or, or_false, false_or, and_true, true_and, and_false, false_and, ne_eq, or_self, and_self, decide_true, decide_false, Bool.false_eq_true, f_X12_isWrongBy, hL.o, ↓bx e1, d1]
end
