/-! next, and what count tells -/
section
variable {M : Mem} {s : Nat} {S : Sc} {A : St}
noncomputable def a_next (S : Sc) (set l x : Int) : Nat ⊕ Int32 := if (0 ≤ l ∧ l ≤ 31) ∧ bt (i32 set) l.toNat = true then (if 0 < set ∧ set < 2 ^ S.nl ∧ 0 ≤ x ∧ x ≤ S.sr (S.fo l.toNat) then .inr (i32 (S.nxt set l.toNat x)) else .inl 2) else .inl 1
theorem set_lt (hS : S.ok) {set : Int} (hs : isSetP S set) {l : Nat} (h1 : l < 32) (h2 : bt (i32 set) l = true) : l < S.nl := by
  by_cases c : l < S.nl
  · exact c
  · rw [set_hi hS hs (by omega) h1] at h2
    cases h2
theorem c_next (h : RO M s S A) (set l x : Int) (z1 : -2147483648 ≤ set) (z2 : set ≤ 2147483647) (z3 : -2147483648 ≤ l) (z4 : l ≤ 2147483647) (z5 : -2147483648 ≤ x) (z6 : x ≤ 2147483647) : f_X11_next 1 (i32 set) (i32 l) (i32 x) M = some (a_next S set l x, M) := by
  obtain ⟨hW, hV, -, h8⟩ := h
  have hS := hW.1
  have dc : Decidable (isSetP S set) := Classical.propDecidable _
  have hn := X11_needSet hV h8 hS set z1 z2
  have b := hS.2.1
  obtain ⟨hL, hc, hs, hC, hA, hr, -⟩ := hV
  have ea := fun hset l hl => X5_leafAfter hW hs hC (set := set) hset (l := l) hl x
  obtain ⟨c0, c1, ck, cg, cl, cd, cr, -, -, -, cb, -, cf⟩ := hC
  unfold a_next
  by_cases d : 0 ≤ l ∧ l ≤ 31
  · obtain ⟨l, rfl⟩ : ∃ k : Nat, l = k := ⟨l.toNat, by omega⟩
    simp only [Int.toNat_natCast]
    have eu := ubit (i32 set) (i := l) (by omega)
    by_cases d2 : bt (i32 set) l = true
    · rw [if_pos ⟨d, d2⟩]
      rw [if_pos d2] at eu
      by_cases d3 : isSetP S set
      · rw [if_pos d3] at hn
        have hl := set_lt hS d3 (by omega) d2
        have hfo := Sc.fo_lt hS hl
        have b3 := Sc.sr_b hS (S.fo l)
        by_cases d4 : 0 ≤ x ∧ x ≤ S.sr (S.fo l)
        · have e1 := ea d3 l hl d4.1 d4.2
          rw [if_pos ⟨d3.1, d3.2, d4⟩]
          simp (disch := omega) only [add_i0, cast_add1, cast_sub1, toNat120, i32_lit, i32_neg, i32_add, i32_sub, i32_mul, i32_nat, i32_le, i32_lt, i32_eq, inB_i, Int.toNat_natCast, mI_sI_eq, mI_sI_ne, mR_sR_eq, mR_sR_ne, mI_sR, mR_sI, mK_sI, mN_sI, mn_sI, mJ_sI, mK_sR, mN_sR, mn_sR, mJ_sR, mI_wI, mR_wI, mK_wI, mN_wI, mn_wI, mJ_wI, ↓bnd_of, ↓bndX_r, ↓bndX_l, ↓ap_of, bnd_of, bndX_r, bndX_l, if_true, if_false, ite_true, ite_false, not_true_eq_false, not_false_eq_true, Nat.reduceAdd, Nat.reduceMul, Nat.reduceEqDiff, Int.reduceToNat, Int.reduceNeg, Ilt_t, Ilt_f, Ile_t, Ile_f, Ieq_t, Ieq_f, Nlt_t, Nlt_f, Nle_t, Nle_f, Neq_t, Neq_f, or_true, true_or, or_false, false_or, and_true, true_and, and_false, false_and, ne_eq, or_self, and_self, decide_true, decide_false, Bool.false_eq_true, f_X11_next, f_X11_next_18, f_X11_next_58, eu, hL.o, ↓bxX hn, h8, hs.o, cf, cr, e1]
        · rw [if_neg (fun q => d4 q.2.2)]
          simp (disch := omega) only [add_i0, cast_add1, cast_sub1, toNat120, i32_lit, i32_neg, i32_add, i32_sub, i32_mul, i32_nat, i32_le, i32_lt, i32_eq, inB_i, Int.toNat_natCast, mI_sI_eq, mI_sI_ne, mR_sR_eq, mR_sR_ne, mI_sR, mR_sI, mK_sI, mN_sI, mn_sI, mJ_sI, mK_sR, mN_sR, mn_sR, mJ_sR, mI_wI, mR_wI, mK_wI, mN_wI, mn_wI, mJ_wI, ↓bnd_of, ↓bndX_r, ↓bndX_l, ↓ap_of, bnd_of, bndX_r, bndX_l, if_true, if_false, ite_true, ite_false, not_true_eq_false, not_false_eq_true, Nat.reduceAdd, Nat.reduceMul, Nat.reduceEqDiff, Int.reduceToNat, Int.reduceNeg, Ilt_t, Ilt_f, Ile_t, Ile_f, Ieq_t, Ieq_f, Nlt_t, Nlt_f, Nle_t, Nle_f, Neq_t, Neq_f, or_true, true_or, or_false, false_or, and_true, true_and, and_false, false_and, ne_eq, or_self, and_self, decide_true, decide_false, Bool.false_eq_true, f_X11_next, f_X11_next_18, f_X11_next_58, eu, hL.o, ↓bxX hn, h8, hs.o, cf, cr]
          (first | done | with_reducible rfl | ((repeat' split) <;> (first | with_reducible rfl | (exfalso; omega) | grind)))
      · rw [if_neg d3] at hn
        rw [if_neg (fun q => d3 ⟨q.1, q.2.1⟩)]
        simp (disch := omega) only [add_i0, cast_add1, cast_sub1, toNat120, i32_lit, i32_neg, i32_add, i32_sub, i32_mul, i32_nat, i32_le, i32_lt, i32_eq, inB_i, Int.toNat_natCast, mI_sI_eq, mI_sI_ne, mR_sR_eq, mR_sR_ne, mI_sR, mR_sI, mK_sI, mN_sI, mn_sI, mJ_sI, mK_sR, mN_sR, mn_sR, mJ_sR, mI_wI, mR_wI, mK_wI, mN_wI, mn_wI, mJ_wI, ↓bnd_of, ↓bndX_r, ↓bndX_l, ↓ap_of, bnd_of, bndX_r, bndX_l, if_true, if_false, ite_true, ite_false, not_true_eq_false, not_false_eq_true, Nat.reduceAdd, Nat.reduceMul, Nat.reduceEqDiff, Int.reduceToNat, Int.reduceNeg, Ilt_t, Ilt_f, Ile_t, Ile_f, Ieq_t, Ieq_f, Nlt_t, Nlt_f, Nle_t, Nle_f, Neq_t, Neq_f, or_true, true_or, or_false, false_or, and_true, true_and, and_false, false_and, ne_eq, or_self, and_self, decide_true, decide_false, Bool.false_eq_true, f_X11_next, f_X11_next_18, f_X11_next_58, eu, hL.o, ↓bxL hn]
    · rw [if_neg (fun q => d2 q.2)]
      rw [if_neg d2] at eu
      simp (disch := omega) only [add_i0, cast_add1, cast_sub1, toNat120, i32_lit, i32_neg, i32_add, i32_sub, i32_mul, i32_nat, i32_le, i32_lt, i32_eq, inB_i, Int.toNat_natCast, mI_sI_eq, mI_sI_ne, mR_sR_eq, mR_sR_ne, mI_sR, mR_sI, mK_sI, mN_sI, mn_sI, mJ_sI, mK_sR, mN_sR, mn_sR, mJ_sR, mI_wI, mR_wI, mK_wI, mN_wI, mn_wI, mJ_wI, ↓bnd_of, ↓bndX_r, ↓bndX_l, ↓ap_of, bnd_of, bndX_r, bndX_l, if_true, if_false, ite_true, ite_false, not_true_eq_false, not_false_eq_true, Nat.reduceAdd, Nat.reduceMul, Nat.reduceEqDiff, Int.reduceToNat, Int.reduceNeg, Ilt_t, Ilt_f, Ile_t, Ile_f, Ieq_t, Ieq_f, Nlt_t, Nlt_f, Nle_t, Nle_f, Neq_t, Neq_f, or_true, true_or, or_false, false_or, and_true, true_and, and_false, false_and, ne_eq, or_self, and_self, decide_true, decide_false, Bool.false_eq_true, f_X11_next, f_X11_next_18, eu]
  · rw [if_neg (fun q => d q.1)]
    rcases (by omega : l < 0 ∨ 31 < l) with q | q
    · unfold f_X11_next f_X11_next_18
      rw [if_pos (by simp (disch := omega) only [add_i0, cast_add1, cast_sub1, toNat120, i32_lit, i32_neg, i32_add, i32_sub, i32_mul, i32_nat, i32_le, i32_lt, i32_eq, inB_i, Int.toNat_natCast, mI_sI_eq, mI_sI_ne, mR_sR_eq, mR_sR_ne, mI_sR, mR_sI, mK_sI, mN_sI, mn_sI, mJ_sI, mK_sR, mN_sR, mn_sR, mJ_sR, mI_wI, mR_wI, mK_wI, mN_wI, mn_wI, mJ_wI, ↓bnd_of, ↓bndX_r, ↓bndX_l, ↓ap_of, bnd_of, bndX_r, bndX_l, if_true, if_false, ite_true, ite_false, not_true_eq_false, not_false_eq_true, Nat.reduceAdd, Nat.reduceMul, Nat.reduceEqDiff, Int.reduceToNat, Int.reduceNeg, Ilt_t, Ilt_f, Ile_t, Ile_f, Ieq_t, Ieq_f, Nlt_t, Nlt_f, Nle_t, Nle_f, Neq_t, Neq_f, or_true, true_or, or_false, false_or, and_true, true_and, and_false, false_and, ne_eq, or_self, and_self, decide_true, decide_false, Bool.false_eq_true])]
    · unfold f_X11_next f_X11_next_18
      rw [if_neg (by simp (disch := omega) only [add_i0, cast_add1, cast_sub1, toNat120, i32_lit, i32_neg, i32_add, i32_sub, i32_mul, i32_nat, i32_le, i32_lt, i32_eq, inB_i, Int.toNat_natCast, mI_sI_eq, mI_sI_ne, mR_sR_eq, mR_sR_ne, mI_sR, mR_sI, mK_sI, mN_sI, mn_sI, mJ_sI, mK_sR, mN_sR, mn_sR, mJ_sR, mI_wI, mR_wI, mK_wI, mN_wI, mn_wI, mJ_wI, ↓bnd_of, ↓bndX_r, ↓bndX_l, ↓ap_of, bnd_of, bndX_r, bndX_l, if_true, if_false, ite_true, ite_false, not_true_eq_false, not_false_eq_true, Nat.reduceAdd, Nat.reduceMul, Nat.reduceEqDiff, Int.reduceToNat, Int.reduceNeg, Ilt_t, Ilt_f, Ile_t, Ile_f, Ieq_t, Ieq_f, Nlt_t, Nlt_f, Nle_t, Nle_f, Neq_t, Neq_f, or_true, true_or, or_false, false_or, and_true, true_and, and_false, false_and, ne_eq, or_self, and_self, decide_true, decide_false, Bool.false_eq_true]), if_pos (by simp (disch := omega) only [add_i0, cast_add1, cast_sub1, toNat120, i32_lit, i32_neg, i32_add, i32_sub, i32_mul, i32_nat, i32_le, i32_lt, i32_eq, inB_i, Int.toNat_natCast, mI_sI_eq, mI_sI_ne, mR_sR_eq, mR_sR_ne, mI_sR, mR_sI, mK_sI, mN_sI, mn_sI, mJ_sI, mK_sR, mN_sR, mn_sR, mJ_sR, mI_wI, mR_wI, mK_wI, mN_wI, mn_wI, mJ_wI, ↓bnd_of, ↓bndX_r, ↓bndX_l, ↓ap_of, bnd_of, bndX_r, bndX_l, if_true, if_false, ite_true, ite_false, not_true_eq_false, not_false_eq_true, Nat.reduceAdd, Nat.reduceMul, Nat.reduceEqDiff, Int.reduceToNat, Int.reduceNeg, Ilt_t, Ilt_f, Ile_t, Ile_f, Ieq_t, Ieq_f, Nlt_t, Nlt_f, Nle_t, Nle_f, Neq_t, Neq_f, or_true, true_or, or_false, false_or, and_true, true_and, and_false, false_and, ne_eq, or_self, and_self, decide_true, decide_false, Bool.false_eq_true])]
theorem r_next (hW : S.wf) (hV : RV M S A) (set l x : Int) (z1 : -2147483648 ≤ set) (z2 : set ≤ 2147483647) (z3 : -2147483648 ≤ l) (z4 : l ≤ 2147483647) (z5 : -2147483648 ≤ x) (z6 : x ≤ 2147483647) : ∃ v M', f_X12_next 134 (i32 set) (i32 l) (i32 x) M = some (v, M') ∧ RA M M' (a_next S set l x) v := by
  generalize ha : a_next S set l x = ans
  unfold f_X12_next
  refine ref_start hW hV (fun M0 hV0 hc0 => ?_)
  have hS := hW.1
  have dc : Decidable (isSetP S set) := Classical.propDecidable _
  have hn := X12_isSet hV0 hS set z1 z2
  have hf := X12_fail hV0.1 1
  have hf2 := X12_fail hV0.1 2
  have b := hS.2.1
  have hL := hV0.1
  obtain ⟨c0, c1, ck, cg, cl, cd, cr, -, -, -, cf⟩ := hV0.2.1
  unfold a_next at ha
  by_cases d : 0 ≤ l ∧ l ≤ 31
  · obtain ⟨l, rfl⟩ : ∃ k : Nat, l = k := ⟨l.toNat, by omega⟩
    simp only [Int.toNat_natCast] at ha
    have ei := X12_isOf (M := M0) (i32 set) (i := l) (by omega)
    by_cases d2 : bt (i32 set) l = true
    · rw [if_pos ⟨d, d2⟩] at ha
      rw [if_pos d2] at ei
      by_cases d3 : isSetP S set
      · rw [if_pos d3] at hn
        have hl := set_lt hS d3 (by omega) d2
        have hfo := Sc.fo_lt hS hl
        have b3 := Sc.sr_b hS (S.fo l)
        by_cases d4 : 0 ≤ x ∧ x ≤ S.sr (S.fo l)
        · have e1 := X12_nextOf hW hV0 set hl d2 x d4.1 d4.2
          rw [if_pos ⟨d3.1, d3.2, d4⟩] at ha
          subst ha
          refine ⟨_, _, ?_, RA_1 hc0 _⟩
          simp (disch := omega) only [add_i0, cast_add1, cast_sub1, toNat120, i32_lit, i32_neg, i32_add, i32_sub, i32_mul, i32_nat, i32_le, i32_lt, i32_eq, inB_i, Int.toNat_natCast, mI_sI_eq, mI_sI_ne, mR_sR_eq, mR_sR_ne, mI_sR, mR_sI, mK_sI, mN_sI, mn_sI, mJ_sI, mK_sR, mN_sR, mn_sR, mJ_sR, mI_wI, mR_wI, mK_wI, mN_wI, mn_wI, mJ_wI, ↓bnd_of, ↓bndX_r, ↓bndX_l, ↓ap_of, bnd_of, bndX_r, bndX_l, if_true, if_false, ite_true, ite_false, not_true_eq_false, not_false_eq_true, Nat.reduceAdd, Nat.reduceMul, Nat.reduceEqDiff, Int.reduceToNat, Int.reduceNeg, Ilt_t, Ilt_f, Ile_t, Ile_f, Ieq_t, Ieq_f, Nlt_t, Nlt_f, Nle_t, Nle_f, Neq_t, Neq_f, or_true, true_or, or_false, false_or, and_true, true_and, and_false, false_and, ne_eq, or_self, and_self, decide_true, decide_false, Bool.false_eq_true, hL.o, ↓isIn_g, i32_toInt, Int32.toInt_toInt64, i64_0, i64_31, ite10, ↓bx ei, ↓bx hn, cf, cr, e1]
        · rw [if_neg (fun q => d4 q.2.2)] at ha
          subst ha
          refine ⟨_, _, ?_, RA_f 2 (i32 0)⟩
          simp (disch := omega) only [add_i0, cast_add1, cast_sub1, toNat120, i32_lit, i32_neg, i32_add, i32_sub, i32_mul, i32_nat, i32_le, i32_lt, i32_eq, inB_i, Int.toNat_natCast, mI_sI_eq, mI_sI_ne, mR_sR_eq, mR_sR_ne, mI_sR, mR_sI, mK_sI, mN_sI, mn_sI, mJ_sI, mK_sR, mN_sR, mn_sR, mJ_sR, mI_wI, mR_wI, mK_wI, mN_wI, mn_wI, mJ_wI, ↓bnd_of, ↓bndX_r, ↓bndX_l, ↓ap_of, bnd_of, bndX_r, bndX_l, if_true, if_false, ite_true, ite_false, not_true_eq_false, not_false_eq_true, Nat.reduceAdd, Nat.reduceMul, Nat.reduceEqDiff, Int.reduceToNat, Int.reduceNeg, Ilt_t, Ilt_f, Ile_t, Ile_f, Ieq_t, Ieq_f, Nlt_t, Nlt_f, Nle_t, Nle_f, Neq_t, Neq_f, or_true, true_or, or_false, false_or, and_true, true_and, and_false, false_and, ne_eq, or_self, and_self, decide_true, decide_false, Bool.false_eq_true, f_X12_next_60, hL.o, ↓isIn_g, i32_toInt, Int32.toInt_toInt64, i64_0, i64_31, ite10, ↓bx ei, ↓bx hn, cf, cr, hf2]
          (first | done | with_reducible rfl | ((repeat' split) <;> (first | with_reducible rfl | (exfalso; omega) | grind)))
      · rw [if_neg d3] at hn
        rw [if_neg (fun q => d3 ⟨q.1, q.2.1⟩)] at ha
        subst ha
        refine ⟨_, _, ?_, RA_f 2 (i32 0)⟩
        simp (disch := omega) only [add_i0, cast_add1, cast_sub1, toNat120, i32_lit, i32_neg, i32_add, i32_sub, i32_mul, i32_nat, i32_le, i32_lt, i32_eq, inB_i, Int.toNat_natCast, mI_sI_eq, mI_sI_ne, mR_sR_eq, mR_sR_ne, mI_sR, mR_sI, mK_sI, mN_sI, mn_sI, mJ_sI, mK_sR, mN_sR, mn_sR, mJ_sR, mI_wI, mR_wI, mK_wI, mN_wI, mn_wI, mJ_wI, ↓bnd_of, ↓bndX_r, ↓bndX_l, ↓ap_of, bnd_of, bndX_r, bndX_l, if_true, if_false, ite_true, ite_false, not_true_eq_false, not_false_eq_true, Nat.reduceAdd, Nat.reduceMul, Nat.reduceEqDiff, Int.reduceToNat, Int.reduceNeg, Ilt_t, Ilt_f, Ile_t, Ile_f, Ieq_t, Ieq_f, Nlt_t, Nlt_f, Nle_t, Nle_f, Neq_t, Neq_f, or_true, true_or, or_false, false_or, and_true, true_and, and_false, false_and, ne_eq, or_self, and_self, decide_true, decide_false, Bool.false_eq_true, f_X12_next_60, hL.o, ↓isIn_g, i32_toInt, i64_0, i64_31, ite10, ↓bx ei, ↓bx hn, hf2]
        rfl
    · rw [if_neg (fun q => d2 q.2)] at ha
      rw [if_neg d2] at ei
      subst ha
      refine ⟨_, _, ?_, RA_f 1 (i32 0)⟩
      simp (disch := omega) only [add_i0, cast_add1, cast_sub1, toNat120, i32_lit, i32_neg, i32_add, i32_sub, i32_mul, i32_nat, i32_le, i32_lt, i32_eq, inB_i, Int.toNat_natCast, mI_sI_eq, mI_sI_ne, mR_sR_eq, mR_sR_ne, mI_sR, mR_sI, mK_sI, mN_sI, mn_sI, mJ_sI, mK_sR, mN_sR, mn_sR, mJ_sR, mI_wI, mR_wI, mK_wI, mN_wI, mn_wI, mJ_wI, ↓bnd_of, ↓bndX_r, ↓bndX_l, ↓ap_of, bnd_of, bndX_r, bndX_l, if_true, if_false, ite_true, ite_false, not_true_eq_false, not_false_eq_true, Nat.reduceAdd, Nat.reduceMul, Nat.reduceEqDiff, Int.reduceToNat, Int.reduceNeg, Ilt_t, Ilt_f, Ile_t, Ile_f, Ieq_t, Ieq_f, Nlt_t, Nlt_f, Nle_t, Nle_f, Neq_t, Neq_f, or_true, true_or, or_false, false_or, and_true, true_and, and_false, false_and, ne_eq, or_self, and_self, decide_true, decide_false, Bool.false_eq_true, f_X12_next_25, hL.o, ↓isIn_g, i32_toInt, i64_0, i64_31, ite10, ↓bx ei, hf]
      rfl
  · rw [if_neg (fun q => d q.1)] at ha
    subst ha
    refine ⟨_, _, ?_, RA_f 1 (i32 0)⟩
    simp (disch := omega) only [add_i0, cast_add1, cast_sub1, toNat120, i32_lit, i32_neg, i32_add, i32_sub, i32_mul, i32_nat, i32_le, i32_lt, i32_eq, inB_i, Int.toNat_natCast, mI_sI_eq, mI_sI_ne, mR_sR_eq, mR_sR_ne, mI_sR, mR_sI, mK_sI, mN_sI, mn_sI, mJ_sI, mK_sR, mN_sR, mn_sR, mJ_sR, mI_wI, mR_wI, mK_wI, mN_wI, mn_wI, mJ_wI, ↓bnd_of, ↓bndX_r, ↓bndX_l, ↓ap_of, bnd_of, bndX_r, bndX_l, if_true, if_false, ite_true, ite_false, not_true_eq_false, not_false_eq_true, Nat.reduceAdd, Nat.reduceMul, Nat.reduceEqDiff, Int.reduceToNat, Int.reduceNeg, Ilt_t, Ilt_f, Ile_t, Ile_f, Ieq_t, Ieq_f, Nlt_t, Nlt_f, Nle_t, Nle_f, Neq_t, Neq_f, or_true, true_or, or_false, false_or, and_true, true_and, and_false, false_and, ne_eq, or_self, and_self, decide_true, decide_false, Bool.false_eq_true, f_X12_next_25, hL.o, ↓isIn_g, i32_toInt, i64_0, i64_31, ite10, hf]
    (first | done | with_reducible rfl | ((repeat' split) <;> (first | with_reducible rfl | (exfalso; omega) | grind)))
end
