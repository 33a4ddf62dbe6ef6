/-! length, sign, seen, seenSign: the calls -/
section
variable {M : Mem} {s v : Nat} {S V : Sc} {A : St} {dp : Nat → Nat} {set : Int}
theorem CT_of (hC : CSh M s S) : CT M s S := ⟨hC.1, hC.2.2.1, hC.2.2.2.1, hC.2.2.2.2.2.2.2.2.2.2.2.1⟩
theorem RTV_of (hV : RV M S A) : RTV M 0 S S A := ⟨hV, hV.2.1.1, fun f q => by rw [Nat.zero_add]; exact hV.2.1.2.2.1 f q, fun f q => by rw [Nat.zero_add]; exact hV.2.1.2.2.2.1 f q, fun f q => by rw [Nat.zero_add]; exact hV.2.1.2.2.2.2.2.2.2.2.2.1 f q⟩
def tlS (S : Sc) (set : Int) (f : Nat) : Bool := S.hasL f set.toNat
def a_length (S : Sc) (A : St) (r set : Int) : Nat ⊕ Int32 := if 0 ≤ r ∧ r < A.rc then (if 0 < set ∧ set < 2 ^ S.nl then (if (chk S A).1 = 0 then .inr (lenI (tells S A S (tlS S set) r) (i32 0)) else .inr (i32 (-1))) else .inl 2) else .inl 1
def a_sign (S : Sc) (A : St) (r set i : Int) : Nat ⊕ Int32 := if 0 ≤ r ∧ r < A.rc then (if 0 < set ∧ set < 2 ^ S.nl then (if (chk S A).1 = 0 ∧ 0 ≤ i ∧ i32 i < lenI (tells S A S (tlS S set) r) (i32 0) then .inr (outS (i32 i) (tells S A S (tlS S set) r) (i32 0, i32 (-1))).2 else .inl 1) else .inl 2) else .inl 1
def a_seen (S : Sc) (A : St) (V : Sc) (r : Int) : Nat ⊕ Int32 := if 0 ≤ r ∧ r < A.rc then (if V.nf = 0 then .inr (i32 (-1)) else if (chk S A).1 = 0 then .inr (lenI (tells S A V (fun _ => true) r) (i32 0)) else .inr (i32 (-1))) else .inl 1
def a_seenSign (S : Sc) (A : St) (V : Sc) (r i : Int) : Nat ⊕ Int32 := if 0 ≤ r ∧ r < A.rc then (if V.nf ≠ 0 ∧ (chk S A).1 = 0 ∧ 0 ≤ i ∧ i32 i < lenI (tells S A V (fun _ => true) r) (i32 0) then .inr (outS (i32 i) (tells S A V (fun _ => true) r) (i32 0, i32 (-1))).2 else .inl 1) else .inl 1
theorem c_length (h : RO M s S A) (hVT : VT S S dp) (r : Int) (z1 : -2147483648 ≤ r) (z2 : r ≤ 2147483647) (z3 : -2147483648 ≤ set) (z4 : set ≤ 2147483647) : ∃ M', f_X11_length 1 (i32 r) (i32 set) M = some (a_length S A r set, M') ∧ Scr M M' := by
  obtain ⟨hW, hV, -, h8⟩ := h
  have hS := hW.1
  have dc : Decidable (isSetP S set) := Classical.propDecidable _
  have hn := X11_needRecord hV r z1 z2
  have hn2 := X11_needSet hV h8 hS set z3 z4
  have hL := hV.1
  unfold a_length
  by_cases d : 0 ≤ r ∧ r < A.rc
  · rw [if_pos d] at hn ⊢
    by_cases d2 : isSetP S set
    · rw [if_pos d2] at hn2
      rw [if_pos (show 0 < set ∧ set < 2 ^ S.nl from d2)]
      obtain ⟨M1, e1, g1⟩ := X11_isWrong hS hV h8
      have hV1 := hV.scr g1
      have hL1 := hV1.1
      have h81 : mR M1 1 8 = s := by rw [g1.r (by unfold ScR; omega)]; exact h8
      by_cases d3 : (chk S A).1 = 0
      · rw [if_pos d3] at e1
        simp only [d3, if_true]
        have hk := (chk_ok S A).mp d3
        obtain ⟨M2, e2, g2, q2⟩ := X8_tell (t := s) (st := i32 set) (w := i32 (-1)) (tl := tlS S set) hW hVT hk d.1 d.2 hV1 hV1.2.2.1 hV1.2.2.2.2.2.2.1 hV1.2.2.2.2.2.2.2.1 (CT_of hV1.2.2.2.1) (fun f hf => told_c hS hV1.2.2.2.1 d2 hf)
        refine ⟨M2, ?_, g1.tr g2⟩
        simp (disch := omega) only [↓reduceIte, add_i0, cast_add1, cast_sub1, toNat120, i32_lit, i32_neg, i32_add, i32_sub, i32_mul, i32_nat, i32_le, i32_lt, i32_eq, inB_i, Int.toNat_natCast, mI_sI_eq, mI_sI_ne, mR_sR_eq, mR_sR_ne, mI_sR, mR_sI, mK_sI, mN_sI, mn_sI, mJ_sI, mK_sR, mN_sR, mn_sR, mJ_sR, mI_wI, mR_wI, mK_wI, mN_wI, mn_wI, mJ_wI, ↓bnd_of, ↓bndX_r, ↓bndX_l, ↓ap_nr, bnd_of, bndX_r, bndX_l, if_true, if_false, ite_true, ite_false, not_true_eq_false, not_false_eq_true, Nat.reduceAdd, Nat.reduceMul, Nat.reduceEqDiff, Int.reduceToNat, Int.reduceNeg, Ilt_t, Ilt_f, Ile_t, Ile_f, Ieq_t, Ieq_f, Nlt_t, Nlt_f, Nle_t, Nle_f, Neq_t, Neq_f, or_true, true_or, or_false, false_or, and_true, true_and, and_false, false_and, ne_eq, or_self, and_self, decide_true, decide_false, Bool.false_eq_true, f_X11_length, hL.o, ↓bxX hn, ↓bxX hn2, ↓bx e1, hL1.o, h81, bx e2]
      · rw [if_neg d3] at e1
        simp only [d3, if_false]
        refine ⟨M1, ?_, g1⟩
        simp (disch := omega) only [↓reduceIte, add_i0, cast_add1, cast_sub1, toNat120, i32_lit, i32_neg, i32_add, i32_sub, i32_mul, i32_nat, i32_le, i32_lt, i32_eq, inB_i, Int.toNat_natCast, mI_sI_eq, mI_sI_ne, mR_sR_eq, mR_sR_ne, mI_sR, mR_sI, mK_sI, mN_sI, mn_sI, mJ_sI, mK_sR, mN_sR, mn_sR, mJ_sR, mI_wI, mR_wI, mK_wI, mN_wI, mn_wI, mJ_wI, ↓bnd_of, ↓bndX_r, ↓bndX_l, ↓ap_nr, bnd_of, bndX_r, bndX_l, if_true, if_false, ite_true, ite_false, not_true_eq_false, not_false_eq_true, Nat.reduceAdd, Nat.reduceMul, Nat.reduceEqDiff, Int.reduceToNat, Int.reduceNeg, Ilt_t, Ilt_f, Ile_t, Ile_f, Ieq_t, Ieq_f, Nlt_t, Nlt_f, Nle_t, Nle_f, Neq_t, Neq_f, or_true, true_or, or_false, false_or, and_true, true_and, and_false, false_and, ne_eq, or_self, and_self, decide_true, decide_false, Bool.false_eq_true, f_X11_length, hL.o, ↓bxX hn, ↓bxX hn2, ↓bx e1]
    · rw [if_neg d2] at hn2
      rw [if_neg (show ¬ (0 < set ∧ set < 2 ^ S.nl) from d2)]
      refine ⟨M, ?_, Scr.rf M⟩
      simp (disch := omega) only [↓reduceIte, add_i0, cast_add1, cast_sub1, toNat120, i32_lit, i32_neg, i32_add, i32_sub, i32_mul, i32_nat, i32_le, i32_lt, i32_eq, inB_i, Int.toNat_natCast, mI_sI_eq, mI_sI_ne, mR_sR_eq, mR_sR_ne, mI_sR, mR_sI, mK_sI, mN_sI, mn_sI, mJ_sI, mK_sR, mN_sR, mn_sR, mJ_sR, mI_wI, mR_wI, mK_wI, mN_wI, mn_wI, mJ_wI, ↓bnd_of, ↓bndX_r, ↓bndX_l, ↓ap_nr, bnd_of, bndX_r, bndX_l, if_true, if_false, ite_true, ite_false, not_true_eq_false, not_false_eq_true, Nat.reduceAdd, Nat.reduceMul, Nat.reduceEqDiff, Int.reduceToNat, Int.reduceNeg, Ilt_t, Ilt_f, Ile_t, Ile_f, Ieq_t, Ieq_f, Nlt_t, Nlt_f, Nle_t, Nle_f, Neq_t, Neq_f, or_true, true_or, or_false, false_or, and_true, true_and, and_false, false_and, ne_eq, or_self, and_self, decide_true, decide_false, Bool.false_eq_true, f_X11_length, hL.o, ↓bxX hn, ↓bxL hn2]
  · rw [if_neg d] at hn ⊢
    refine ⟨M, ?_, Scr.rf M⟩
    simp (disch := omega) only [↓reduceIte, add_i0, cast_add1, cast_sub1, toNat120, i32_lit, i32_neg, i32_add, i32_sub, i32_mul, i32_nat, i32_le, i32_lt, i32_eq, inB_i, Int.toNat_natCast, mI_sI_eq, mI_sI_ne, mR_sR_eq, mR_sR_ne, mI_sR, mR_sI, mK_sI, mN_sI, mn_sI, mJ_sI, mK_sR, mN_sR, mn_sR, mJ_sR, mI_wI, mR_wI, mK_wI, mN_wI, mn_wI, mJ_wI, ↓bnd_of, ↓bndX_r, ↓bndX_l, ↓ap_nr, bnd_of, bndX_r, bndX_l, if_true, if_false, ite_true, ite_false, not_true_eq_false, not_false_eq_true, Nat.reduceAdd, Nat.reduceMul, Nat.reduceEqDiff, Int.reduceToNat, Int.reduceNeg, Ilt_t, Ilt_f, Ile_t, Ile_f, Ieq_t, Ieq_f, Nlt_t, Nlt_f, Nle_t, Nle_f, Neq_t, Neq_f, or_true, true_or, or_false, false_or, and_true, true_and, and_false, false_and, ne_eq, or_self, and_self, decide_true, decide_false, Bool.false_eq_true, f_X11_length, hL.o, ↓bxL hn]
theorem c_sign (h : RO M s S A) (hVT : VT S S dp) (r i : Int) (z1 : -2147483648 ≤ r) (z2 : r ≤ 2147483647) (z3 : -2147483648 ≤ set) (z4 : set ≤ 2147483647) (z5 : -2147483648 ≤ i) (z6 : i ≤ 2147483647) : ∃ M', f_X11_sign 1 (i32 r) (i32 set) (i32 i) M = some (a_sign S A r set i, M') ∧ Scr M M' := by
  obtain ⟨hW, hV, -, h8⟩ := h
  have hS := hW.1
  have dc : Decidable (isSetP S set) := Classical.propDecidable _
  have hn := X11_needRecord hV r z1 z2
  have hn2 := X11_needSet hV h8 hS set z3 z4
  have hL := hV.1
  unfold a_sign
  by_cases d : 0 ≤ r ∧ r < A.rc
  · rw [if_pos d] at hn ⊢
    by_cases d2 : isSetP S set
    · rw [if_pos d2] at hn2
      rw [if_pos (show 0 < set ∧ set < 2 ^ S.nl from d2)]
      by_cases d4 : 0 ≤ i
      · obtain ⟨M1, e1, g1⟩ := X11_isWrong hS hV h8
        have hV1 := hV.scr g1
        have hL1 := hV1.1
        have h81 : mR M1 1 8 = s := by rw [g1.r (by unfold ScR; omega)]; exact h8
        by_cases d3 : (chk S A).1 = 0
        · rw [if_pos d3] at e1
          have hk := (chk_ok S A).mp d3
          obtain ⟨M2, e2, g2, q2⟩ := X8_tell (t := s) (st := i32 set) (w := i32 i) (tl := tlS S set) hW hVT hk d.1 d.2 hV1 hV1.2.2.1 hV1.2.2.2.2.2.2.1 hV1.2.2.2.2.2.2.2.1 (CT_of hV1.2.2.2.1) (fun f hf => told_c hS hV1.2.2.2.1 d2 hf)
          have hL2 := hL1.scr g2
          refine ⟨M2, ?_, g1.tr g2⟩
          by_cases d5 : i32 i < lenI (tells S A S (tlS S set) r) (i32 0)
          · rw [if_pos ⟨d3, d4, d5⟩]
            simp (disch := omega) only [↓reduceIte, add_i0, cast_add1, cast_sub1, toNat120, i32_lit, i32_neg, i32_add, i32_sub, i32_mul, i32_nat, i32_le, i32_lt, i32_eq, inB_i, Int.toNat_natCast, mI_sI_eq, mI_sI_ne, mR_sR_eq, mR_sR_ne, mI_sR, mR_sI, mK_sI, mN_sI, mn_sI, mJ_sI, mK_sR, mN_sR, mn_sR, mJ_sR, mI_wI, mR_wI, mK_wI, mN_wI, mn_wI, mJ_wI, ↓bnd_of, ↓bndX_r, ↓bndX_l, ↓ap_nr, bnd_of, bndX_r, bndX_l, if_true, if_false, ite_true, ite_false, not_true_eq_false, not_false_eq_true, Nat.reduceAdd, Nat.reduceMul, Nat.reduceEqDiff, Int.reduceToNat, Int.reduceNeg, Ilt_t, Ilt_f, Ile_t, Ile_f, Ieq_t, Ieq_f, Nlt_t, Nlt_f, Nle_t, Nle_f, Neq_t, Neq_f, or_true, true_or, or_false, false_or, and_true, true_and, and_false, false_and, ne_eq, or_self, and_self, decide_true, decide_false, Bool.false_eq_true, f_X11_sign, hL.o, ↓bxX hn, ↓bxX hn2, ↓bx e1, hL1.o, h81, ↓bx e2, d5, hL2.o, q2]
          · rw [if_neg (fun q => d5 q.2.2)]
            simp (disch := omega) only [↓reduceIte, add_i0, cast_add1, cast_sub1, toNat120, i32_lit, i32_neg, i32_add, i32_sub, i32_mul, i32_nat, i32_le, i32_lt, i32_eq, inB_i, Int.toNat_natCast, mI_sI_eq, mI_sI_ne, mR_sR_eq, mR_sR_ne, mI_sR, mR_sI, mK_sI, mN_sI, mn_sI, mJ_sI, mK_sR, mN_sR, mn_sR, mJ_sR, mI_wI, mR_wI, mK_wI, mN_wI, mn_wI, mJ_wI, ↓bnd_of, ↓bndX_r, ↓bndX_l, ↓ap_nr, bnd_of, bndX_r, bndX_l, if_true, if_false, ite_true, ite_false, not_true_eq_false, not_false_eq_true, Nat.reduceAdd, Nat.reduceMul, Nat.reduceEqDiff, Int.reduceToNat, Int.reduceNeg, Ilt_t, Ilt_f, Ile_t, Ile_f, Ieq_t, Ieq_f, Nlt_t, Nlt_f, Nle_t, Nle_f, Neq_t, Neq_f, or_true, true_or, or_false, false_or, and_true, true_and, and_false, false_and, ne_eq, or_self, and_self, decide_true, decide_false, Bool.false_eq_true, f_X11_sign, f_X11_sign_47, hL.o, ↓bxX hn, ↓bxX hn2, ↓bx e1, hL1.o, h81, ↓bx e2, d5]
        · rw [if_neg d3] at e1
          rw [if_neg (fun q => d3 q.1)]
          refine ⟨M1, ?_, g1⟩
          simp (disch := omega) only [↓reduceIte, add_i0, cast_add1, cast_sub1, toNat120, i32_lit, i32_neg, i32_add, i32_sub, i32_mul, i32_nat, i32_le, i32_lt, i32_eq, inB_i, Int.toNat_natCast, mI_sI_eq, mI_sI_ne, mR_sR_eq, mR_sR_ne, mI_sR, mR_sI, mK_sI, mN_sI, mn_sI, mJ_sI, mK_sR, mN_sR, mn_sR, mJ_sR, mI_wI, mR_wI, mK_wI, mN_wI, mn_wI, mJ_wI, ↓bnd_of, ↓bndX_r, ↓bndX_l, ↓ap_nr, bnd_of, bndX_r, bndX_l, if_true, if_false, ite_true, ite_false, not_true_eq_false, not_false_eq_true, Nat.reduceAdd, Nat.reduceMul, Nat.reduceEqDiff, Int.reduceToNat, Int.reduceNeg, Ilt_t, Ilt_f, Ile_t, Ile_f, Ieq_t, Ieq_f, Nlt_t, Nlt_f, Nle_t, Nle_f, Neq_t, Neq_f, or_true, true_or, or_false, false_or, and_true, true_and, and_false, false_and, ne_eq, or_self, and_self, decide_true, decide_false, Bool.false_eq_true, f_X11_sign, f_X11_sign_47, hL.o, ↓bxX hn, ↓bxX hn2, ↓bx e1]
      · rw [if_neg (fun q => d4 q.2.1)]
        refine ⟨M, ?_, Scr.rf M⟩
        simp (disch := omega) only [↓reduceIte, add_i0, cast_add1, cast_sub1, toNat120, i32_lit, i32_neg, i32_add, i32_sub, i32_mul, i32_nat, i32_le, i32_lt, i32_eq, inB_i, Int.toNat_natCast, mI_sI_eq, mI_sI_ne, mR_sR_eq, mR_sR_ne, mI_sR, mR_sI, mK_sI, mN_sI, mn_sI, mJ_sI, mK_sR, mN_sR, mn_sR, mJ_sR, mI_wI, mR_wI, mK_wI, mN_wI, mn_wI, mJ_wI, ↓bnd_of, ↓bndX_r, ↓bndX_l, ↓ap_nr, bnd_of, bndX_r, bndX_l, if_true, if_false, ite_true, ite_false, not_true_eq_false, not_false_eq_true, Nat.reduceAdd, Nat.reduceMul, Nat.reduceEqDiff, Int.reduceToNat, Int.reduceNeg, Ilt_t, Ilt_f, Ile_t, Ile_f, Ieq_t, Ieq_f, Nlt_t, Nlt_f, Nle_t, Nle_f, Neq_t, Neq_f, or_true, true_or, or_false, false_or, and_true, true_and, and_false, false_and, ne_eq, or_self, and_self, decide_true, decide_false, Bool.false_eq_true, f_X11_sign, f_X11_sign_47, hL.o, ↓bxX hn, ↓bxX hn2]
    · rw [if_neg d2] at hn2
      rw [if_neg (show ¬ (0 < set ∧ set < 2 ^ S.nl) from d2)]
      refine ⟨M, ?_, Scr.rf M⟩
      simp (disch := omega) only [↓reduceIte, add_i0, cast_add1, cast_sub1, toNat120, i32_lit, i32_neg, i32_add, i32_sub, i32_mul, i32_nat, i32_le, i32_lt, i32_eq, inB_i, Int.toNat_natCast, mI_sI_eq, mI_sI_ne, mR_sR_eq, mR_sR_ne, mI_sR, mR_sI, mK_sI, mN_sI, mn_sI, mJ_sI, mK_sR, mN_sR, mn_sR, mJ_sR, mI_wI, mR_wI, mK_wI, mN_wI, mn_wI, mJ_wI, ↓bnd_of, ↓bndX_r, ↓bndX_l, ↓ap_nr, bnd_of, bndX_r, bndX_l, if_true, if_false, ite_true, ite_false, not_true_eq_false, not_false_eq_true, Nat.reduceAdd, Nat.reduceMul, Nat.reduceEqDiff, Int.reduceToNat, Int.reduceNeg, Ilt_t, Ilt_f, Ile_t, Ile_f, Ieq_t, Ieq_f, Nlt_t, Nlt_f, Nle_t, Nle_f, Neq_t, Neq_f, or_true, true_or, or_false, false_or, and_true, true_and, and_false, false_and, ne_eq, or_self, and_self, decide_true, decide_false, Bool.false_eq_true, f_X11_sign, hL.o, ↓bxX hn, ↓bxL hn2]
  · rw [if_neg d] at hn ⊢
    refine ⟨M, ?_, Scr.rf M⟩
    simp (disch := omega) only [↓reduceIte, add_i0, cast_add1, cast_sub1, toNat120, i32_lit, i32_neg, i32_add, i32_sub, i32_mul, i32_nat, i32_le, i32_lt, i32_eq, inB_i, Int.toNat_natCast, mI_sI_eq, mI_sI_ne, mR_sR_eq, mR_sR_ne, mI_sR, mR_sI, mK_sI, mN_sI, mn_sI, mJ_sI, mK_sR, mN_sR, mn_sR, mJ_sR, mI_wI, mR_wI, mK_wI, mN_wI, mn_wI, mJ_wI, ↓bnd_of, ↓bndX_r, ↓bndX_l, ↓ap_nr, bnd_of, bndX_r, bndX_l, if_true, if_false, ite_true, ite_false, not_true_eq_false, not_false_eq_true, Nat.reduceAdd, Nat.reduceMul, Nat.reduceEqDiff, Int.reduceToNat, Int.reduceNeg, Ilt_t, Ilt_f, Ile_t, Ile_f, Ieq_t, Ieq_f, Nlt_t, Nlt_f, Nle_t, Nle_f, Neq_t, Neq_f, or_true, true_or, or_false, false_or, and_true, true_and, and_false, false_and, ne_eq, or_self, and_self, decide_true, decide_false, Bool.false_eq_true, f_X11_sign, hL.o, ↓bxL hn]
/-- the class's view at v -/
def CVw (M : Mem) (v : Nat) (V : Sc) : Prop := mR M 1 9 = v ∧ ShLay M v ∧ 88 ≤ v ∧ v ≤ 112 ∧ CT M v V ∧ ∀ f, f < V.nf → ¬ (mI M (v + 9) f &&& i32 255 = i32 0)
theorem nsc_sh {a j : Nat} (h : 88 ≤ a ∧ a ≤ 123) : ¬ ScI a j := by
  intro q
  unfold ScI at q
  omega
theorem nsc_147 : ¬ ScI 147 1 := by
  intro q
  unfold ScI at q
  omega
theorem nsc_vw {a f : Nat} (h : a = 139 ∨ a = 140 ∨ a = 145) (hf : f < 16) : ¬ ScI a (16 + f) := by
  intro q
  unfold ScI at q
  omega
theorem CVw.scr {M M' : Mem} (h : CVw M v V) (g : Scr M M') : CVw M' v V := by
  obtain ⟨h1, h2, h3, h4, ⟨h5, h6, h7, h8⟩, h9⟩ := h
  have q : ∀ a j, 88 ≤ a → a ≤ 123 → mI M' a j = mI M a j := fun a j q1 q2 => g.i (nsc_sh ⟨q1, q2⟩)
  refine ⟨by rw [g.r (by unfold ScR; omega)]; exact h1, ShLay.scr h2 h3 g, h3, h4, ⟨by rw [q _ _ (by omega) (by omega)]; exact h5, fun f hf => by rw [q _ _ (by omega) (by omega)]; exact h6 f hf, fun f hf => by rw [q _ _ (by omega) (by omega)]; exact h7 f hf, fun f hf => by rw [q _ _ (by omega) (by omega)]; exact h8 f hf⟩, fun f hf => by rw [q _ _ (by omega) (by omega)]; exact h9 f hf⟩
theorem c_seen (h : RO M s S A) (hw : CVw M v V) (hVT : VT S V dp) (r : Int) (z1 : -2147483648 ≤ r) (z2 : r ≤ 2147483647) : ∃ M', f_X11_seen 1 (i32 r) M = some (a_seen S A V r, M') ∧ Scr M M' := by
  obtain ⟨hW, hV, -, h8⟩ := h
  have hS := hW.1
  have hn := X11_needRecord hV r z1 z2
  have hL := hV.1
  have hV16 := hVT.1
  obtain ⟨w1, w2, w3, w4, w5, w6⟩ := id hw
  have w50 := w5.1
  unfold a_seen
  by_cases d : 0 ≤ r ∧ r < A.rc
  · rw [if_pos d] at hn ⊢
    by_cases d2 : V.nf = 0
    · rw [if_pos d2]
      rw [d2] at w50
      refine ⟨M, ?_, Scr.rf M⟩
      simp (disch := omega) only [↓reduceIte, add_i0, cast_add1, cast_sub1, toNat120, i32_lit, i32_neg, i32_add, i32_sub, i32_mul, i32_nat, i32_le, i32_lt, i32_eq, inB_i, Int.toNat_natCast, mI_sI_eq, mI_sI_ne, mR_sR_eq, mR_sR_ne, mI_sR, mR_sI, mK_sI, mN_sI, mn_sI, mJ_sI, mK_sR, mN_sR, mn_sR, mJ_sR, mI_wI, mR_wI, mK_wI, mN_wI, mn_wI, mJ_wI, ↓bnd_of, ↓bndX_r, ↓bndX_l, ↓ap_nr, bnd_of, bndX_r, bndX_l, if_true, if_false, ite_true, ite_false, not_true_eq_false, not_false_eq_true, Nat.reduceAdd, Nat.reduceMul, Nat.reduceEqDiff, Int.reduceToNat, Int.reduceNeg, Ilt_t, Ilt_f, Ile_t, Ile_f, Ieq_t, Ieq_f, Nlt_t, Nlt_f, Nle_t, Nle_f, Neq_t, Neq_f, or_true, true_or, or_false, false_or, and_true, true_and, and_false, false_and, ne_eq, or_self, and_self, decide_true, decide_false, Bool.false_eq_true, f_X11_seen, hL.o, ↓bxX hn, w1, w2.o, w50]
    · rw [if_neg d2]
      obtain ⟨M1, e1, g1⟩ := X11_isWrong hS hV h8
      have hV1 := hV.scr g1
      have hL1 := hV1.1
      have h81 : mR M1 1 8 = s := by rw [g1.r (by unfold ScR; omega)]; exact h8
      obtain ⟨y1, y2, y3, y4, y5, y6⟩ := hw.scr g1
      by_cases d3 : (chk S A).1 = 0
      · rw [if_pos d3] at e1
        simp only [d3, if_true]
        have hk := (chk_ok S A).mp d3
        obtain ⟨M2, e2, g2, q2⟩ := X8_tell (t := v) (st := i32 255) (w := i32 (-1)) (tl := fun _ => true) hW hVT hk d.1 d.2 hV1 y2 y3 y4 y5 (fun f hf => ⟨fun q => absurd q (y6 f hf), fun q => by cases q⟩)
        refine ⟨M2, ?_, g1.tr g2⟩
        simp (disch := omega) only [↓reduceIte, add_i0, cast_add1, cast_sub1, toNat120, i32_lit, i32_neg, i32_add, i32_sub, i32_mul, i32_nat, i32_le, i32_lt, i32_eq, inB_i, Int.toNat_natCast, mI_sI_eq, mI_sI_ne, mR_sR_eq, mR_sR_ne, mI_sR, mR_sI, mK_sI, mN_sI, mn_sI, mJ_sI, mK_sR, mN_sR, mn_sR, mJ_sR, mI_wI, mR_wI, mK_wI, mN_wI, mn_wI, mJ_wI, ↓bnd_of, ↓bndX_r, ↓bndX_l, ↓ap_nr, bnd_of, bndX_r, bndX_l, if_true, if_false, ite_true, ite_false, not_true_eq_false, not_false_eq_true, Nat.reduceAdd, Nat.reduceMul, Nat.reduceEqDiff, Int.reduceToNat, Int.reduceNeg, Ilt_t, Ilt_f, Ile_t, Ile_f, Ieq_t, Ieq_f, Nlt_t, Nlt_f, Nle_t, Nle_f, Neq_t, Neq_f, or_true, true_or, or_false, false_or, and_true, true_and, and_false, false_and, ne_eq, or_self, and_self, decide_true, decide_false, Bool.false_eq_true, f_X11_seen, hL.o, ↓bxX hn, w1, w2.o, w50, ↓bx e1, hL1.o, h81, y1, bx e2]
      · rw [if_neg d3] at e1
        simp only [d3, if_false]
        refine ⟨M1, ?_, g1⟩
        simp (disch := omega) only [↓reduceIte, add_i0, cast_add1, cast_sub1, toNat120, i32_lit, i32_neg, i32_add, i32_sub, i32_mul, i32_nat, i32_le, i32_lt, i32_eq, inB_i, Int.toNat_natCast, mI_sI_eq, mI_sI_ne, mR_sR_eq, mR_sR_ne, mI_sR, mR_sI, mK_sI, mN_sI, mn_sI, mJ_sI, mK_sR, mN_sR, mn_sR, mJ_sR, mI_wI, mR_wI, mK_wI, mN_wI, mn_wI, mJ_wI, ↓bnd_of, ↓bndX_r, ↓bndX_l, ↓ap_nr, bnd_of, bndX_r, bndX_l, if_true, if_false, ite_true, ite_false, not_true_eq_false, not_false_eq_true, Nat.reduceAdd, Nat.reduceMul, Nat.reduceEqDiff, Int.reduceToNat, Int.reduceNeg, Ilt_t, Ilt_f, Ile_t, Ile_f, Ieq_t, Ieq_f, Nlt_t, Nlt_f, Nle_t, Nle_f, Neq_t, Neq_f, or_true, true_or, or_false, false_or, and_true, true_and, and_false, false_and, ne_eq, or_self, and_self, decide_true, decide_false, Bool.false_eq_true, f_X11_seen, hL.o, ↓bxX hn, w1, w2.o, w50, ↓bx e1]
  · rw [if_neg d] at hn ⊢
    refine ⟨M, ?_, Scr.rf M⟩
    simp (disch := omega) only [↓reduceIte, add_i0, cast_add1, cast_sub1, toNat120, i32_lit, i32_neg, i32_add, i32_sub, i32_mul, i32_nat, i32_le, i32_lt, i32_eq, inB_i, Int.toNat_natCast, mI_sI_eq, mI_sI_ne, mR_sR_eq, mR_sR_ne, mI_sR, mR_sI, mK_sI, mN_sI, mn_sI, mJ_sI, mK_sR, mN_sR, mn_sR, mJ_sR, mI_wI, mR_wI, mK_wI, mN_wI, mn_wI, mJ_wI, ↓bnd_of, ↓bndX_r, ↓bndX_l, ↓ap_nr, bnd_of, bndX_r, bndX_l, if_true, if_false, ite_true, ite_false, not_true_eq_false, not_false_eq_true, Nat.reduceAdd, Nat.reduceMul, Nat.reduceEqDiff, Int.reduceToNat, Int.reduceNeg, Ilt_t, Ilt_f, Ile_t, Ile_f, Ieq_t, Ieq_f, Nlt_t, Nlt_f, Nle_t, Nle_f, Neq_t, Neq_f, or_true, true_or, or_false, false_or, and_true, true_and, and_false, false_and, ne_eq, or_self, and_self, decide_true, decide_false, Bool.false_eq_true, f_X11_seen, hL.o, ↓bxL hn]
theorem c_seenSign (h : RO M s S A) (hw : CVw M v V) (hVT : VT S V dp) (r i : Int) (z1 : -2147483648 ≤ r) (z2 : r ≤ 2147483647) (z5 : -2147483648 ≤ i) (z6 : i ≤ 2147483647) : ∃ M', f_X11_seenSign 1 (i32 r) (i32 i) M = some (a_seenSign S A V r i, M') ∧ Scr M M' := by
  obtain ⟨hW, hV, -, h8⟩ := h
  have hS := hW.1
  have hn := X11_needRecord hV r z1 z2
  have hL := hV.1
  have hV16 := hVT.1
  obtain ⟨w1, w2, w3, w4, w5, w6⟩ := id hw
  have w50 := w5.1
  unfold a_seenSign
  by_cases d : 0 ≤ r ∧ r < A.rc
  · rw [if_pos d] at hn ⊢
    by_cases d4 : 0 ≤ i
    · by_cases d2 : V.nf = 0
      · rw [if_neg (fun q => q.1 d2)]
        rw [d2] at w50
        refine ⟨M, ?_, Scr.rf M⟩
        simp (disch := omega) only [↓reduceIte, add_i0, cast_add1, cast_sub1, toNat120, i32_lit, i32_neg, i32_add, i32_sub, i32_mul, i32_nat, i32_le, i32_lt, i32_eq, inB_i, Int.toNat_natCast, mI_sI_eq, mI_sI_ne, mR_sR_eq, mR_sR_ne, mI_sR, mR_sI, mK_sI, mN_sI, mn_sI, mJ_sI, mK_sR, mN_sR, mn_sR, mJ_sR, mI_wI, mR_wI, mK_wI, mN_wI, mn_wI, mJ_wI, ↓bnd_of, ↓bndX_r, ↓bndX_l, ↓ap_nr, bnd_of, bndX_r, bndX_l, if_true, if_false, ite_true, ite_false, not_true_eq_false, not_false_eq_true, Nat.reduceAdd, Nat.reduceMul, Nat.reduceEqDiff, Int.reduceToNat, Int.reduceNeg, Ilt_t, Ilt_f, Ile_t, Ile_f, Ieq_t, Ieq_f, Nlt_t, Nlt_f, Nle_t, Nle_f, Neq_t, Neq_f, or_true, true_or, or_false, false_or, and_true, true_and, and_false, false_and, ne_eq, or_self, and_self, decide_true, decide_false, Bool.false_eq_true, f_X11_seenSign, f_X11_seenSign_54, hL.o, ↓bxX hn, w1, w2.o, w50]
      · obtain ⟨M1, e1, g1⟩ := X11_isWrong hS hV h8
        have hV1 := hV.scr g1
        have hL1 := hV1.1
        have h81 : mR M1 1 8 = s := by rw [g1.r (by unfold ScR; omega)]; exact h8
        obtain ⟨y1, y2, y3, y4, y5, y6⟩ := hw.scr g1
        by_cases d3 : (chk S A).1 = 0
        · rw [if_pos d3] at e1
          have hk := (chk_ok S A).mp d3
          obtain ⟨M2, e2, g2, q2⟩ := X8_tell (t := v) (st := i32 255) (w := i32 i) (tl := fun _ => true) hW hVT hk d.1 d.2 hV1 y2 y3 y4 y5 (fun f hf => ⟨fun q => absurd q (y6 f hf), fun q => by cases q⟩)
          have hL2 := hL1.scr g2
          refine ⟨M2, ?_, g1.tr g2⟩
          by_cases d5 : i32 i < lenI (tells S A V (fun _ => true) r) (i32 0)
          · rw [if_pos ⟨d2, d3, d4, d5⟩]
            simp (disch := omega) only [↓reduceIte, add_i0, cast_add1, cast_sub1, toNat120, i32_lit, i32_neg, i32_add, i32_sub, i32_mul, i32_nat, i32_le, i32_lt, i32_eq, inB_i, Int.toNat_natCast, mI_sI_eq, mI_sI_ne, mR_sR_eq, mR_sR_ne, mI_sR, mR_sI, mK_sI, mN_sI, mn_sI, mJ_sI, mK_sR, mN_sR, mn_sR, mJ_sR, mI_wI, mR_wI, mK_wI, mN_wI, mn_wI, mJ_wI, ↓bnd_of, ↓bndX_r, ↓bndX_l, ↓ap_nr, bnd_of, bndX_r, bndX_l, if_true, if_false, ite_true, ite_false, not_true_eq_false, not_false_eq_true, Nat.reduceAdd, Nat.reduceMul, Nat.reduceEqDiff, Int.reduceToNat, Int.reduceNeg, Ilt_t, Ilt_f, Ile_t, Ile_f, Ieq_t, Ieq_f, Nlt_t, Nlt_f, Nle_t, Nle_f, Neq_t, Neq_f, or_true, true_or, or_false, false_or, and_true, true_and, and_false, false_and, ne_eq, or_self, and_self, decide_true, decide_false, Bool.false_eq_true, f_X11_seenSign, hL.o, ↓bxX hn, w1, w2.o, w50, ↓bx e1, hL1.o, h81, y1, bx e2, d5, hL2.o, q2]
          · rw [if_neg (fun q => d5 q.2.2.2)]
            simp (disch := omega) only [↓reduceIte, add_i0, cast_add1, cast_sub1, toNat120, i32_lit, i32_neg, i32_add, i32_sub, i32_mul, i32_nat, i32_le, i32_lt, i32_eq, inB_i, Int.toNat_natCast, mI_sI_eq, mI_sI_ne, mR_sR_eq, mR_sR_ne, mI_sR, mR_sI, mK_sI, mN_sI, mn_sI, mJ_sI, mK_sR, mN_sR, mn_sR, mJ_sR, mI_wI, mR_wI, mK_wI, mN_wI, mn_wI, mJ_wI, ↓bnd_of, ↓bndX_r, ↓bndX_l, ↓ap_nr, bnd_of, bndX_r, bndX_l, if_true, if_false, ite_true, ite_false, not_true_eq_false, not_false_eq_true, Nat.reduceAdd, Nat.reduceMul, Nat.reduceEqDiff, Int.reduceToNat, Int.reduceNeg, Ilt_t, Ilt_f, Ile_t, Ile_f, Ieq_t, Ieq_f, Nlt_t, Nlt_f, Nle_t, Nle_f, Neq_t, Neq_f, or_true, true_or, or_false, false_or, and_true, true_and, and_false, false_and, ne_eq, or_self, and_self, decide_true, decide_false, Bool.false_eq_true, f_X11_seenSign, f_X11_seenSign_54, hL.o, ↓bxX hn, w1, w2.o, w50, ↓bx e1, hL1.o, h81, y1, bx e2, d5]
        · rw [if_neg d3] at e1
          rw [if_neg (fun q => d3 q.2.1)]
          refine ⟨M1, ?_, g1⟩
          simp (disch := omega) only [↓reduceIte, add_i0, cast_add1, cast_sub1, toNat120, i32_lit, i32_neg, i32_add, i32_sub, i32_mul, i32_nat, i32_le, i32_lt, i32_eq, inB_i, Int.toNat_natCast, mI_sI_eq, mI_sI_ne, mR_sR_eq, mR_sR_ne, mI_sR, mR_sI, mK_sI, mN_sI, mn_sI, mJ_sI, mK_sR, mN_sR, mn_sR, mJ_sR, mI_wI, mR_wI, mK_wI, mN_wI, mn_wI, mJ_wI, ↓bnd_of, ↓bndX_r, ↓bndX_l, ↓ap_nr, bnd_of, bndX_r, bndX_l, if_true, if_false, ite_true, ite_false, not_true_eq_false, not_false_eq_true, Nat.reduceAdd, Nat.reduceMul, Nat.reduceEqDiff, Int.reduceToNat, Int.reduceNeg, Ilt_t, Ilt_f, Ile_t, Ile_f, Ieq_t, Ieq_f, Nlt_t, Nlt_f, Nle_t, Nle_f, Neq_t, Neq_f, or_true, true_or, or_false, false_or, and_true, true_and, and_false, false_and, ne_eq, or_self, and_self, decide_true, decide_false, Bool.false_eq_true, f_X11_seenSign, f_X11_seenSign_54, hL.o, ↓bxX hn, w1, w2.o, w50, ↓bx e1]
    · rw [if_neg (fun q => d4 q.2.2.1)]
      refine ⟨M, ?_, Scr.rf M⟩
      simp (disch := omega) only [↓reduceIte, add_i0, cast_add1, cast_sub1, toNat120, i32_lit, i32_neg, i32_add, i32_sub, i32_mul, i32_nat, i32_le, i32_lt, i32_eq, inB_i, Int.toNat_natCast, mI_sI_eq, mI_sI_ne, mR_sR_eq, mR_sR_ne, mI_sR, mR_sI, mK_sI, mN_sI, mn_sI, mJ_sI, mK_sR, mN_sR, mn_sR, mJ_sR, mI_wI, mR_wI, mK_wI, mN_wI, mn_wI, mJ_wI, ↓bnd_of, ↓bndX_r, ↓bndX_l, ↓ap_nr, bnd_of, bndX_r, bndX_l, if_true, if_false, ite_true, ite_false, not_true_eq_false, not_false_eq_true, Nat.reduceAdd, Nat.reduceMul, Nat.reduceEqDiff, Int.reduceToNat, Int.reduceNeg, Ilt_t, Ilt_f, Ile_t, Ile_f, Ieq_t, Ieq_f, Nlt_t, Nlt_f, Nle_t, Nle_f, Neq_t, Neq_f, or_true, true_or, or_false, false_or, and_true, true_and, and_false, false_and, ne_eq, or_self, and_self, decide_true, decide_false, Bool.false_eq_true, f_X11_seenSign, f_X11_seenSign_54, hL.o, ↓bxX hn]
  · rw [if_neg d] at hn ⊢
    refine ⟨M, ?_, Scr.rf M⟩
    simp (disch := omega) only [↓reduceIte, add_i0, cast_add1, cast_sub1, toNat120, i32_lit, i32_neg, i32_add, i32_sub, i32_mul, i32_nat, i32_le, i32_lt, i32_eq, inB_i, Int.toNat_natCast, mI_sI_eq, mI_sI_ne, mR_sR_eq, mR_sR_ne, mI_sR, mR_sI, mK_sI, mN_sI, mn_sI, mJ_sI, mK_sR, mN_sR, mn_sR, mJ_sR, mI_wI, mR_wI, mK_wI, mN_wI, mn_wI, mJ_wI, ↓bnd_of, ↓bndX_r, ↓bndX_l, ↓ap_nr, bnd_of, bndX_r, bndX_l, if_true, if_false, ite_true, ite_false, not_true_eq_false, not_false_eq_true, Nat.reduceAdd, Nat.reduceMul, Nat.reduceEqDiff, Int.reduceToNat, Int.reduceNeg, Ilt_t, Ilt_f, Ile_t, Ile_f, Ieq_t, Ieq_f, Nlt_t, Nlt_f, Nle_t, Nle_f, Neq_t, Neq_f, or_true, true_or, or_false, false_or, and_true, true_and, and_false, false_and, ne_eq, or_self, and_self, decide_true, decide_false, Bool.false_eq_true, f_X11_seenSign, hL.o, ↓bxL hn]
/-- the reference's check, at a memory of any form -/
theorem r_chk (hW : S.wf) (hV : RV M S A) (hc0 : mI M 134 2 = i32 0) : ∃ M1, f_X12_checked 134 M = some (i32 (chk S A).1, M1) ∧ Scr M M1 ∧ mI M1 134 2 = i32 0 ∧ Chg (fun a j => a = 134 ∧ (j = 34 ∨ j = 35)) M M1 := by
  have e1 := X12_checked hW hV
  refine ⟨_, e1, wrM_scr _ _ _, ?_, ?_⟩
  · unfold wrM; simp (disch := omega) only [↓reduceIte, add_i0, cast_add1, cast_sub1, toNat120, i32_lit, i32_neg, i32_add, i32_sub, i32_mul, i32_nat, i32_le, i32_lt, i32_eq, inB_i, Int.toNat_natCast, mI_sI_eq, mI_sI_ne, mR_sR_eq, mR_sR_ne, mI_sR, mR_sI, mK_sI, mN_sI, mn_sI, mJ_sI, mK_sR, mN_sR, mn_sR, mJ_sR, mI_wI, mR_wI, mK_wI, mN_wI, mn_wI, mJ_wI, ↓bnd_of, ↓bndX_r, ↓bndX_l, ↓ap_nr, bnd_of, bndX_r, bndX_l, if_true, if_false, ite_true, ite_false, not_true_eq_false, not_false_eq_true, Nat.reduceAdd, Nat.reduceMul, Nat.reduceEqDiff, Int.reduceToNat, Int.reduceNeg, Ilt_t, Ilt_f, Ile_t, Ile_f, Ieq_t, Ieq_f, Nlt_t, Nlt_f, Nle_t, Nle_f, Neq_t, Neq_f, or_true, true_or, or_false, false_or, and_true, true_and, and_false, false_and, ne_eq, or_self, and_self, decide_true, decide_false, Bool.false_eq_true, hc0]
  · unfold wrM
    exact ((Chg.rf _ M).sI (by omega)).sI (by omega)
theorem r_length (hW : S.wf) (hV : RV M S A) (hVT : VT S S dp) (r : Int) (z1 : -2147483648 ≤ r) (z2 : r ≤ 2147483647) (z3 : -2147483648 ≤ set) (z4 : set ≤ 2147483647) : ∃ x M', f_X12_length 134 (i32 r) (i32 set) M = some (x, M') ∧ RA M M' (a_length S A r set) x := by
  generalize ha : a_length S A r set = ans
  unfold f_X12_length
  refine ref_start2 hW hV (fun M0 g0 hV0 hc0 => ?_)
  have hS := hW.1
  have dc : Decidable (isSetP S set) := Classical.propDecidable _
  have hn := X12_isRecord hV0 r z1 z2
  have hn2 := X12_isSet hV0 hS set z3 z4
  have hf := X12_fail hV0.1 1
  have hf2 := X12_fail hV0.1 2
  have hL := hV0.1
  have hb := chkF_b S A hV.2.2.1 S.nl 0
  have hb2 : 0 ≤ (chk S A).1 ∧ (chk S A).1 ≤ 5 := ⟨hb.1, hb.2.1⟩
  unfold a_length at ha
  by_cases d : 0 ≤ r ∧ r < A.rc
  · rw [if_pos d] at hn ha
    by_cases d2 : isSetP S set
    · rw [if_pos d2] at hn2
      rw [if_pos (show 0 < set ∧ set < 2 ^ S.nl from d2)] at ha
      obtain ⟨M1, e1, gw, f0, -⟩ := r_chk hW hV0 hc0
      have hV1 := hV0.scr hS gw
      have hL1 := hV1.1
      by_cases d3 : (chk S A).1 = 0
      · rw [if_pos d3] at ha
        have hk := (chk_ok S A).mp d3
        obtain ⟨M2, e2, g2, f2, -⟩ := X12_tell (b := 0) (st := i32 set) (w := (-1 : Int32)) (tl := tlS S set) hW hVT hk (Or.inl rfl) (told_r hW d2.1 z4) d.1 d.2 (RTV_of hV1)
        have e2 : f_X12_tell 134 (0 : Int32) (i32 r) (i32 set) (-1 : Int32) M1 = _ := e2
        subst ha
        refine ⟨_, M2, ?_, RA_2 (gw.tr g2) (by rw [f2]; exact f0) _⟩
        rw [d3] at e1
        simp (disch := omega) only [↓reduceIte, add_i0, cast_add1, cast_sub1, toNat120, i32_lit, i32_neg, i32_add, i32_sub, i32_mul, i32_nat, i32_le, i32_lt, i32_eq, inB_i, Int.toNat_natCast, mI_sI_eq, mI_sI_ne, mR_sR_eq, mR_sR_ne, mI_sR, mR_sI, mK_sI, mN_sI, mn_sI, mJ_sI, mK_sR, mN_sR, mn_sR, mJ_sR, mI_wI, mR_wI, mK_wI, mN_wI, mn_wI, mJ_wI, ↓bnd_of, ↓bndX_r, ↓bndX_l, ↓ap_nr, bnd_of, bndX_r, bndX_l, if_true, if_false, ite_true, ite_false, not_true_eq_false, not_false_eq_true, Nat.reduceAdd, Nat.reduceMul, Nat.reduceEqDiff, Int.reduceToNat, Int.reduceNeg, Ilt_t, Ilt_f, Ile_t, Ile_f, Ieq_t, Ieq_f, Nlt_t, Nlt_f, Nle_t, Nle_f, Neq_t, Neq_f, or_true, true_or, or_false, false_or, and_true, true_and, and_false, false_and, ne_eq, or_self, and_self, decide_true, decide_false, Bool.false_eq_true, hL.o, ↓bx hn, ↓bx hn2, ↓bx e1, hL1.o, ↓bx e2]
      · rw [if_neg d3] at ha
        subst ha
        refine ⟨_, M1, ?_, RA_2 gw f0 _⟩
        simp (disch := omega) only [↓reduceIte, add_i0, cast_add1, cast_sub1, toNat120, i32_lit, i32_neg, i32_add, i32_sub, i32_mul, i32_nat, i32_le, i32_lt, i32_eq, inB_i, Int.toNat_natCast, mI_sI_eq, mI_sI_ne, mR_sR_eq, mR_sR_ne, mI_sR, mR_sI, mK_sI, mN_sI, mn_sI, mJ_sI, mK_sR, mN_sR, mn_sR, mJ_sR, mI_wI, mR_wI, mK_wI, mN_wI, mn_wI, mJ_wI, ↓bnd_of, ↓bndX_r, ↓bndX_l, ↓ap_nr, bnd_of, bndX_r, bndX_l, if_true, if_false, ite_true, ite_false, not_true_eq_false, not_false_eq_true, Nat.reduceAdd, Nat.reduceMul, Nat.reduceEqDiff, Int.reduceToNat, Int.reduceNeg, Ilt_t, Ilt_f, Ile_t, Ile_f, Ieq_t, Ieq_f, Nlt_t, Nlt_f, Nle_t, Nle_f, Neq_t, Neq_f, or_true, true_or, or_false, false_or, and_true, true_and, and_false, false_and, ne_eq, or_self, and_self, decide_true, decide_false, Bool.false_eq_true, hL.o, ↓bx hn, ↓bx hn2, ↓bx e1]
    · rw [if_neg d2] at hn2
      rw [if_neg (show ¬ (0 < set ∧ set < 2 ^ S.nl) from d2)] at ha
      subst ha
      refine ⟨_, _, ?_, RA_f 2 (i32 0)⟩
      simp (disch := omega) only [↓reduceIte, add_i0, cast_add1, cast_sub1, toNat120, i32_lit, i32_neg, i32_add, i32_sub, i32_mul, i32_nat, i32_le, i32_lt, i32_eq, inB_i, Int.toNat_natCast, mI_sI_eq, mI_sI_ne, mR_sR_eq, mR_sR_ne, mI_sR, mR_sI, mK_sI, mN_sI, mn_sI, mJ_sI, mK_sR, mN_sR, mn_sR, mJ_sR, mI_wI, mR_wI, mK_wI, mN_wI, mn_wI, mJ_wI, ↓bnd_of, ↓bndX_r, ↓bndX_l, ↓ap_nr, bnd_of, bndX_r, bndX_l, if_true, if_false, ite_true, ite_false, not_true_eq_false, not_false_eq_true, Nat.reduceAdd, Nat.reduceMul, Nat.reduceEqDiff, Int.reduceToNat, Int.reduceNeg, Ilt_t, Ilt_f, Ile_t, Ile_f, Ieq_t, Ieq_f, Nlt_t, Nlt_f, Nle_t, Nle_f, Neq_t, Neq_f, or_true, true_or, or_false, false_or, and_true, true_and, and_false, false_and, ne_eq, or_self, and_self, decide_true, decide_false, Bool.false_eq_true, hL.o, ↓bx hn, ↓bx hn2, hf2]
      rfl
  · rw [if_neg d] at hn ha
    subst ha
    refine ⟨_, _, ?_, RA_f 1 (i32 0)⟩
    simp (disch := omega) only [↓reduceIte, add_i0, cast_add1, cast_sub1, toNat120, i32_lit, i32_neg, i32_add, i32_sub, i32_mul, i32_nat, i32_le, i32_lt, i32_eq, inB_i, Int.toNat_natCast, mI_sI_eq, mI_sI_ne, mR_sR_eq, mR_sR_ne, mI_sR, mR_sI, mK_sI, mN_sI, mn_sI, mJ_sI, mK_sR, mN_sR, mn_sR, mJ_sR, mI_wI, mR_wI, mK_wI, mN_wI, mn_wI, mJ_wI, ↓bnd_of, ↓bndX_r, ↓bndX_l, ↓ap_nr, bnd_of, bndX_r, bndX_l, if_true, if_false, ite_true, ite_false, not_true_eq_false, not_false_eq_true, Nat.reduceAdd, Nat.reduceMul, Nat.reduceEqDiff, Int.reduceToNat, Int.reduceNeg, Ilt_t, Ilt_f, Ile_t, Ile_f, Ieq_t, Ieq_f, Nlt_t, Nlt_f, Nle_t, Nle_f, Neq_t, Neq_f, or_true, true_or, or_false, false_or, and_true, true_and, and_false, false_and, ne_eq, or_self, and_self, decide_true, decide_false, Bool.false_eq_true, hL.o, ↓bx hn, hf]
    rfl
theorem r_sign (hW : S.wf) (hV : RV M S A) (hVT : VT S S dp) (r i : Int) (z1 : -2147483648 ≤ r) (z2 : r ≤ 2147483647) (z3 : -2147483648 ≤ set) (z4 : set ≤ 2147483647) (z5 : -2147483648 ≤ i) (z6 : i ≤ 2147483647) : ∃ x M', f_X12_sign 134 (i32 r) (i32 set) (i32 i) M = some (x, M') ∧ RA M M' (a_sign S A r set i) x := by
  generalize ha : a_sign S A r set i = ans
  unfold f_X12_sign
  refine ref_start2 hW hV (fun M0 g0 hV0 hc0 => ?_)
  have hS := hW.1
  have dc : Decidable (isSetP S set) := Classical.propDecidable _
  have hn := X12_isRecord hV0 r z1 z2
  have hn2 := X12_isSet hV0 hS set z3 z4
  have hf := X12_fail hV0.1 1
  have hf2 := X12_fail hV0.1 2
  have hL := hV0.1
  have hb := chkF_b S A hV.2.2.1 S.nl 0
  have hb2 : 0 ≤ (chk S A).1 ∧ (chk S A).1 ≤ 5 := ⟨hb.1, hb.2.1⟩
  unfold a_sign at ha
  by_cases d : 0 ≤ r ∧ r < A.rc
  · rw [if_pos d] at hn ha
    by_cases d2 : isSetP S set
    · rw [if_pos d2] at hn2
      rw [if_pos (show 0 < set ∧ set < 2 ^ S.nl from d2)] at ha
      obtain ⟨M1, e1, gw, f0, -⟩ := r_chk hW hV0 hc0
      have hV1 := hV0.scr hS gw
      have hL1 := hV1.1
      have hf1 := X12_fail hL1 1
      by_cases d3 : (chk S A).1 = 0
      · have hk := (chk_ok S A).mp d3
        rw [d3] at e1
        by_cases d4 : 0 ≤ i
        · obtain ⟨M2, e2, g2, f2, q2⟩ := X12_tell (b := 0) (st := i32 set) (w := i32 i) (tl := tlS S set) hW hVT hk (Or.inl rfl) (told_r hW d2.1 z4) d.1 d.2 (RTV_of hV1)
          have e2 : f_X12_tell 134 (0 : Int32) (i32 r) (i32 set) (i32 i) M1 = _ := e2
          have hL2 := hL1.scr g2
          have hf3 := X12_fail hL2 1
          by_cases d5 : i32 i < lenI (tells S A S (tlS S set) r) (i32 0)
          · rw [if_pos ⟨d3, d4, d5⟩] at ha
            have hi := outS_ind (i32 i) (tells S A S (tlS S set) r) 0 (mI M1 134 43) (i32 (-1)) (hit_of d4 z6 d5)
            have hi : (outS (i32 i) (tells S A S (tlS S set) r) (i32 0, mI M1 134 43)).2 = (outS (i32 i) (tells S A S (tlS S set) r) (i32 0, i32 (-1))).2 := hi
            rw [hi] at q2
            have d6 : ¬ (lenI (tells S A S (tlS S set) r) (i32 0) ≤ i32 i) := Int32.not_le.mpr d5
            subst ha
            refine ⟨_, M2, ?_, RA_2 (gw.tr g2) (by rw [f2]; exact f0) _⟩
            simp (disch := omega) only [↓reduceIte, add_i0, cast_add1, cast_sub1, toNat120, i32_lit, i32_neg, i32_add, i32_sub, i32_mul, i32_nat, i32_le, i32_lt, i32_eq, inB_i, Int.toNat_natCast, mI_sI_eq, mI_sI_ne, mR_sR_eq, mR_sR_ne, mI_sR, mR_sI, mK_sI, mN_sI, mn_sI, mJ_sI, mK_sR, mN_sR, mn_sR, mJ_sR, mI_wI, mR_wI, mK_wI, mN_wI, mn_wI, mJ_wI, ↓bnd_of, ↓bndX_r, ↓bndX_l, ↓ap_nr, bnd_of, bndX_r, bndX_l, if_true, if_false, ite_true, ite_false, not_true_eq_false, not_false_eq_true, Nat.reduceAdd, Nat.reduceMul, Nat.reduceEqDiff, Int.reduceToNat, Int.reduceNeg, Ilt_t, Ilt_f, Ile_t, Ile_f, Ieq_t, Ieq_f, Nlt_t, Nlt_f, Nle_t, Nle_f, Neq_t, Neq_f, or_true, true_or, or_false, false_or, and_true, true_and, and_false, false_and, ne_eq, or_self, and_self, decide_true, decide_false, Bool.false_eq_true, hL.o, ↓bx hn, ↓bx hn2, ↓bx e1, hL1.o, ↓bx e2, d6, hL2.o, q2]
          · rw [if_neg (fun q => d5 q.2.2)] at ha
            have d6 : lenI (tells S A S (tlS S set) r) (i32 0) ≤ i32 i := Int32.not_lt.mp d5
            subst ha
            refine ⟨_, _, ?_, RA_fail (gw.tr g2) 1 (i32 0)⟩
            simp (disch := omega) only [↓reduceIte, add_i0, cast_add1, cast_sub1, toNat120, i32_lit, i32_neg, i32_add, i32_sub, i32_mul, i32_nat, i32_le, i32_lt, i32_eq, inB_i, Int.toNat_natCast, mI_sI_eq, mI_sI_ne, mR_sR_eq, mR_sR_ne, mI_sR, mR_sI, mK_sI, mN_sI, mn_sI, mJ_sI, mK_sR, mN_sR, mn_sR, mJ_sR, mI_wI, mR_wI, mK_wI, mN_wI, mn_wI, mJ_wI, ↓bnd_of, ↓bndX_r, ↓bndX_l, ↓ap_nr, bnd_of, bndX_r, bndX_l, if_true, if_false, ite_true, ite_false, not_true_eq_false, not_false_eq_true, Nat.reduceAdd, Nat.reduceMul, Nat.reduceEqDiff, Int.reduceToNat, Int.reduceNeg, Ilt_t, Ilt_f, Ile_t, Ile_f, Ieq_t, Ieq_f, Nlt_t, Nlt_f, Nle_t, Nle_f, Neq_t, Neq_f, or_true, true_or, or_false, false_or, and_true, true_and, and_false, false_and, ne_eq, or_self, and_self, decide_true, decide_false, Bool.false_eq_true, f_X12_sign_63, hL.o, ↓bx hn, ↓bx hn2, ↓bx e1, hL1.o, ↓bx e2, d6, hL2.o, hf3]
            rfl
        · rw [if_neg (fun q => d4 q.2.1)] at ha
          subst ha
          refine ⟨_, _, ?_, RA_fail gw 1 (i32 0)⟩
          simp (disch := omega) only [↓reduceIte, add_i0, cast_add1, cast_sub1, toNat120, i32_lit, i32_neg, i32_add, i32_sub, i32_mul, i32_nat, i32_le, i32_lt, i32_eq, inB_i, Int.toNat_natCast, mI_sI_eq, mI_sI_ne, mR_sR_eq, mR_sR_ne, mI_sR, mR_sI, mK_sI, mN_sI, mn_sI, mJ_sI, mK_sR, mN_sR, mn_sR, mJ_sR, mI_wI, mR_wI, mK_wI, mN_wI, mn_wI, mJ_wI, ↓bnd_of, ↓bndX_r, ↓bndX_l, ↓ap_nr, bnd_of, bndX_r, bndX_l, if_true, if_false, ite_true, ite_false, not_true_eq_false, not_false_eq_true, Nat.reduceAdd, Nat.reduceMul, Nat.reduceEqDiff, Int.reduceToNat, Int.reduceNeg, Ilt_t, Ilt_f, Ile_t, Ile_f, Ieq_t, Ieq_f, Nlt_t, Nlt_f, Nle_t, Nle_f, Neq_t, Neq_f, or_true, true_or, or_false, false_or, and_true, true_and, and_false, false_and, ne_eq, or_self, and_self, decide_true, decide_false, Bool.false_eq_true, f_X12_sign_63, hL.o, ↓bx hn, ↓bx hn2, ↓bx e1, hL1.o, hf1]
          rfl
      · rw [if_neg (fun q => d3 q.1)] at ha
        subst ha
        refine ⟨_, _, ?_, RA_fail gw 1 (i32 0)⟩
        simp (disch := omega) only [↓reduceIte, add_i0, cast_add1, cast_sub1, toNat120, i32_lit, i32_neg, i32_add, i32_sub, i32_mul, i32_nat, i32_le, i32_lt, i32_eq, inB_i, Int.toNat_natCast, mI_sI_eq, mI_sI_ne, mR_sR_eq, mR_sR_ne, mI_sR, mR_sI, mK_sI, mN_sI, mn_sI, mJ_sI, mK_sR, mN_sR, mn_sR, mJ_sR, mI_wI, mR_wI, mK_wI, mN_wI, mn_wI, mJ_wI, ↓bnd_of, ↓bndX_r, ↓bndX_l, ↓ap_nr, bnd_of, bndX_r, bndX_l, if_true, if_false, ite_true, ite_false, not_true_eq_false, not_false_eq_true, Nat.reduceAdd, Nat.reduceMul, Nat.reduceEqDiff, Int.reduceToNat, Int.reduceNeg, Ilt_t, Ilt_f, Ile_t, Ile_f, Ieq_t, Ieq_f, Nlt_t, Nlt_f, Nle_t, Nle_f, Neq_t, Neq_f, or_true, true_or, or_false, false_or, and_true, true_and, and_false, false_and, ne_eq, or_self, and_self, decide_true, decide_false, Bool.false_eq_true, f_X12_sign_63, hL.o, ↓bx hn, ↓bx hn2, ↓bx e1, hL1.o, hf1]
        rfl
    · rw [if_neg d2] at hn2
      rw [if_neg (show ¬ (0 < set ∧ set < 2 ^ S.nl) from d2)] at ha
      subst ha
      refine ⟨_, _, ?_, RA_f 2 (i32 0)⟩
      simp (disch := omega) only [↓reduceIte, add_i0, cast_add1, cast_sub1, toNat120, i32_lit, i32_neg, i32_add, i32_sub, i32_mul, i32_nat, i32_le, i32_lt, i32_eq, inB_i, Int.toNat_natCast, mI_sI_eq, mI_sI_ne, mR_sR_eq, mR_sR_ne, mI_sR, mR_sI, mK_sI, mN_sI, mn_sI, mJ_sI, mK_sR, mN_sR, mn_sR, mJ_sR, mI_wI, mR_wI, mK_wI, mN_wI, mn_wI, mJ_wI, ↓bnd_of, ↓bndX_r, ↓bndX_l, ↓ap_nr, bnd_of, bndX_r, bndX_l, if_true, if_false, ite_true, ite_false, not_true_eq_false, not_false_eq_true, Nat.reduceAdd, Nat.reduceMul, Nat.reduceEqDiff, Int.reduceToNat, Int.reduceNeg, Ilt_t, Ilt_f, Ile_t, Ile_f, Ieq_t, Ieq_f, Nlt_t, Nlt_f, Nle_t, Nle_f, Neq_t, Neq_f, or_true, true_or, or_false, false_or, and_true, true_and, and_false, false_and, ne_eq, or_self, and_self, decide_true, decide_false, Bool.false_eq_true, hL.o, ↓bx hn, ↓bx hn2, hf2]
      rfl
  · rw [if_neg d] at hn ha
    subst ha
    refine ⟨_, _, ?_, RA_f 1 (i32 0)⟩
    simp (disch := omega) only [↓reduceIte, add_i0, cast_add1, cast_sub1, toNat120, i32_lit, i32_neg, i32_add, i32_sub, i32_mul, i32_nat, i32_le, i32_lt, i32_eq, inB_i, Int.toNat_natCast, mI_sI_eq, mI_sI_ne, mR_sR_eq, mR_sR_ne, mI_sR, mR_sI, mK_sI, mN_sI, mn_sI, mJ_sI, mK_sR, mN_sR, mn_sR, mJ_sR, mI_wI, mR_wI, mK_wI, mN_wI, mn_wI, mJ_wI, ↓bnd_of, ↓bndX_r, ↓bndX_l, ↓ap_nr, bnd_of, bndX_r, bndX_l, if_true, if_false, ite_true, ite_false, not_true_eq_false, not_false_eq_true, Nat.reduceAdd, Nat.reduceMul, Nat.reduceEqDiff, Int.reduceToNat, Int.reduceNeg, Ilt_t, Ilt_f, Ile_t, Ile_f, Ieq_t, Ieq_f, Nlt_t, Nlt_f, Nle_t, Nle_f, Neq_t, Neq_f, or_true, true_or, or_false, false_or, and_true, true_and, and_false, false_and, ne_eq, or_self, and_self, decide_true, decide_false, Bool.false_eq_true, hL.o, ↓bx hn, hf]
    rfl
/-- the reference's view -/
def RVw (M : Mem) (V : Sc) : Prop := mI M 147 1 = i32 V.nf ∧ (∀ f, f < V.nf → mI M 139 (16 + f) = i32 (V.kd f)) ∧ (∀ f, f < V.nf → mI M 140 (16 + f) = i32 (V.gr f)) ∧ (∀ f, f < V.nf → mI M 145 (16 + f) = i32 (V.tw f))
theorem RVw.scr {M M' : Mem} (h : RVw M V) (hV : V.nf ≤ 16) (g : Scr M M') : RVw M' V := by
  obtain ⟨h1, h2, h3, h4⟩ := h
  refine ⟨by rw [g.i nsc_147]; exact h1, fun f q => by rw [g.i (nsc_vw (Or.inl rfl) (by omega))]; exact h2 f q, fun f q => by rw [g.i (nsc_vw (Or.inr (Or.inl rfl)) (by omega))]; exact h3 f q, fun f q => by rw [g.i (nsc_vw (Or.inr (Or.inr rfl)) (by omega))]; exact h4 f q⟩
theorem RTV_v (hV : RV M S A) (hw : RVw M V) : RTV M 16 S V A := ⟨hV, hw.1, hw.2.1, hw.2.2.1, hw.2.2.2⟩
theorem X12_isSeen (hW : S.wf) (hV : RV M S A) (hw : RVw M V) (hV16 : V.nf ≤ 16) (hc0 : mI M 134 2 = i32 0) : ∃ M1, f_X12_isSeen 134 M = some (if V.nf ≠ 0 ∧ (chk S A).1 = 0 then i32 1 else i32 0, M1) ∧ Scr M M1 ∧ mI M1 134 2 = i32 0 := by
  have hL := hV.1
  have w1 := hw.1
  have hb := chkF_b S A hV.2.2.1 S.nl 0
  have hb2 : 0 ≤ (chk S A).1 ∧ (chk S A).1 ≤ 5 := ⟨hb.1, hb.2.1⟩
  by_cases d : V.nf = 0
  · rw [if_neg (fun q => q.1 d)]
    rw [d] at w1
    refine ⟨M, ?_, Scr.rf M, hc0⟩
    simp (disch := omega) only [↓reduceIte, add_i0, cast_add1, cast_sub1, toNat120, i32_lit, i32_neg, i32_add, i32_sub, i32_mul, i32_nat, i32_le, i32_lt, i32_eq, inB_i, Int.toNat_natCast, mI_sI_eq, mI_sI_ne, mR_sR_eq, mR_sR_ne, mI_sR, mR_sI, mK_sI, mN_sI, mn_sI, mJ_sI, mK_sR, mN_sR, mn_sR, mJ_sR, mI_wI, mR_wI, mK_wI, mN_wI, mn_wI, mJ_wI, ↓bnd_of, ↓bndX_r, ↓bndX_l, ↓ap_nr, bnd_of, bndX_r, bndX_l, if_true, if_false, ite_true, ite_false, not_true_eq_false, not_false_eq_true, Nat.reduceAdd, Nat.reduceMul, Nat.reduceEqDiff, Int.reduceToNat, Int.reduceNeg, Ilt_t, Ilt_f, Ile_t, Ile_f, Ieq_t, Ieq_f, Nlt_t, Nlt_f, Nle_t, Nle_f, Neq_t, Neq_f, or_true, true_or, or_false, false_or, and_true, true_and, and_false, false_and, ne_eq, or_self, and_self, decide_true, decide_false, Bool.false_eq_true, f_X12_isSeen, hL.o, w1]
  · obtain ⟨M1, e1, gw, f0, -⟩ := r_chk hW hV hc0
    refine ⟨M1, ?_, gw, f0⟩
    by_cases d3 : (chk S A).1 = 0
    · rw [if_pos ⟨d, d3⟩]
      rw [d3] at e1
      simp (disch := omega) only [↓reduceIte, add_i0, cast_add1, cast_sub1, toNat120, i32_lit, i32_neg, i32_add, i32_sub, i32_mul, i32_nat, i32_le, i32_lt, i32_eq, inB_i, Int.toNat_natCast, mI_sI_eq, mI_sI_ne, mR_sR_eq, mR_sR_ne, mI_sR, mR_sI, mK_sI, mN_sI, mn_sI, mJ_sI, mK_sR, mN_sR, mn_sR, mJ_sR, mI_wI, mR_wI, mK_wI, mN_wI, mn_wI, mJ_wI, ↓bnd_of, ↓bndX_r, ↓bndX_l, ↓ap_nr, bnd_of, bndX_r, bndX_l, if_true, if_false, ite_true, ite_false, not_true_eq_false, not_false_eq_true, Nat.reduceAdd, Nat.reduceMul, Nat.reduceEqDiff, Int.reduceToNat, Int.reduceNeg, Ilt_t, Ilt_f, Ile_t, Ile_f, Ieq_t, Ieq_f, Nlt_t, Nlt_f, Nle_t, Nle_f, Neq_t, Neq_f, or_true, true_or, or_false, false_or, and_true, true_and, and_false, false_and, ne_eq, or_self, and_self, decide_true, decide_false, Bool.false_eq_true, f_X12_isSeen, hL.o, w1, ↓bx e1]
    · rw [if_neg (fun q => d3 q.2)]
      simp (disch := omega) only [↓reduceIte, add_i0, cast_add1, cast_sub1, toNat120, i32_lit, i32_neg, i32_add, i32_sub, i32_mul, i32_nat, i32_le, i32_lt, i32_eq, inB_i, Int.toNat_natCast, mI_sI_eq, mI_sI_ne, mR_sR_eq, mR_sR_ne, mI_sR, mR_sI, mK_sI, mN_sI, mn_sI, mJ_sI, mK_sR, mN_sR, mn_sR, mJ_sR, mI_wI, mR_wI, mK_wI, mN_wI, mn_wI, mJ_wI, ↓bnd_of, ↓bndX_r, ↓bndX_l, ↓ap_nr, bnd_of, bndX_r, bndX_l, if_true, if_false, ite_true, ite_false, not_true_eq_false, not_false_eq_true, Nat.reduceAdd, Nat.reduceMul, Nat.reduceEqDiff, Int.reduceToNat, Int.reduceNeg, Ilt_t, Ilt_f, Ile_t, Ile_f, Ieq_t, Ieq_f, Nlt_t, Nlt_f, Nle_t, Nle_f, Neq_t, Neq_f, or_true, true_or, or_false, false_or, and_true, true_and, and_false, false_and, ne_eq, or_self, and_self, decide_true, decide_false, Bool.false_eq_true, f_X12_isSeen, hL.o, w1, ↓bx e1]
theorem r_seen (hW : S.wf) (hV : RV M S A) (hw : RVw M V) (hVT : VT S V dp) (r : Int) (z1 : -2147483648 ≤ r) (z2 : r ≤ 2147483647) : ∃ x M', f_X12_seen 134 (i32 r) M = some (x, M') ∧ RA M M' (a_seen S A V r) x := by
  generalize ha : a_seen S A V r = ans
  unfold f_X12_seen
  refine ref_start2 hW hV (fun M0 g0 hV0 hc0 => ?_)
  have hS := hW.1
  have hV16 := hVT.1
  have hn := X12_isRecord hV0 r z1 z2
  have hf := X12_fail hV0.1 1
  have hL := hV0.1
  have hw0 := hw.scr hV16 g0
  unfold a_seen at ha
  by_cases d : 0 ≤ r ∧ r < A.rc
  · rw [if_pos d] at hn ha
    obtain ⟨M1, e1, gw, f0⟩ := X12_isSeen hW hV0 hw0 hV16 hc0
    have hV1 := hV0.scr hS gw
    have hL1 := hV1.1
    by_cases d2 : V.nf = 0
    · rw [if_pos d2] at ha
      rw [if_neg (fun q => q.1 d2)] at e1
      subst ha
      refine ⟨_, M1, ?_, RA_2 gw f0 _⟩
      simp (disch := omega) only [↓reduceIte, add_i0, cast_add1, cast_sub1, toNat120, i32_lit, i32_neg, i32_add, i32_sub, i32_mul, i32_nat, i32_le, i32_lt, i32_eq, inB_i, Int.toNat_natCast, mI_sI_eq, mI_sI_ne, mR_sR_eq, mR_sR_ne, mI_sR, mR_sI, mK_sI, mN_sI, mn_sI, mJ_sI, mK_sR, mN_sR, mn_sR, mJ_sR, mI_wI, mR_wI, mK_wI, mN_wI, mn_wI, mJ_wI, ↓bnd_of, ↓bndX_r, ↓bndX_l, ↓ap_nr, bnd_of, bndX_r, bndX_l, if_true, if_false, ite_true, ite_false, not_true_eq_false, not_false_eq_true, Nat.reduceAdd, Nat.reduceMul, Nat.reduceEqDiff, Int.reduceToNat, Int.reduceNeg, Ilt_t, Ilt_f, Ile_t, Ile_f, Ieq_t, Ieq_f, Nlt_t, Nlt_f, Nle_t, Nle_f, Neq_t, Neq_f, or_true, true_or, or_false, false_or, and_true, true_and, and_false, false_and, ne_eq, or_self, and_self, decide_true, decide_false, Bool.false_eq_true, hL.o, ↓bx hn, ↓bx e1]
    · rw [if_neg d2] at ha
      by_cases d3 : (chk S A).1 = 0
      · rw [if_pos d3] at ha
        rw [if_pos ⟨d2, d3⟩] at e1
        have hk := (chk_ok S A).mp d3
        obtain ⟨M2, e2, g2, f2, -⟩ := X12_tell (b := 16) (st := (0 : Int32)) (w := (-1 : Int32)) (tl := fun _ => true) hW hVT hk (Or.inr rfl) (told_v V (0 : Int32)) d.1 d.2 (RTV_v hV1 (hw0.scr hV16 gw))
        have e2 : f_X12_tell 134 (16 : Int32) (i32 r) (0 : Int32) (-1 : Int32) M1 = _ := e2
        subst ha
        refine ⟨_, M2, ?_, RA_2 (gw.tr g2) (by rw [f2]; exact f0) _⟩
        simp (disch := omega) only [↓reduceIte, add_i0, cast_add1, cast_sub1, toNat120, i32_lit, i32_neg, i32_add, i32_sub, i32_mul, i32_nat, i32_le, i32_lt, i32_eq, inB_i, Int.toNat_natCast, mI_sI_eq, mI_sI_ne, mR_sR_eq, mR_sR_ne, mI_sR, mR_sI, mK_sI, mN_sI, mn_sI, mJ_sI, mK_sR, mN_sR, mn_sR, mJ_sR, mI_wI, mR_wI, mK_wI, mN_wI, mn_wI, mJ_wI, ↓bnd_of, ↓bndX_r, ↓bndX_l, ↓ap_nr, bnd_of, bndX_r, bndX_l, if_true, if_false, ite_true, ite_false, not_true_eq_false, not_false_eq_true, Nat.reduceAdd, Nat.reduceMul, Nat.reduceEqDiff, Int.reduceToNat, Int.reduceNeg, Ilt_t, Ilt_f, Ile_t, Ile_f, Ieq_t, Ieq_f, Nlt_t, Nlt_f, Nle_t, Nle_f, Neq_t, Neq_f, or_true, true_or, or_false, false_or, and_true, true_and, and_false, false_and, ne_eq, or_self, and_self, decide_true, decide_false, Bool.false_eq_true, hL.o, ↓bx hn, ↓bx e1, hL1.o, ↓bx e2]
      · rw [if_neg d3] at ha
        rw [if_neg (fun q => d3 q.2)] at e1
        subst ha
        refine ⟨_, M1, ?_, RA_2 gw f0 _⟩
        simp (disch := omega) only [↓reduceIte, add_i0, cast_add1, cast_sub1, toNat120, i32_lit, i32_neg, i32_add, i32_sub, i32_mul, i32_nat, i32_le, i32_lt, i32_eq, inB_i, Int.toNat_natCast, mI_sI_eq, mI_sI_ne, mR_sR_eq, mR_sR_ne, mI_sR, mR_sI, mK_sI, mN_sI, mn_sI, mJ_sI, mK_sR, mN_sR, mn_sR, mJ_sR, mI_wI, mR_wI, mK_wI, mN_wI, mn_wI, mJ_wI, ↓bnd_of, ↓bndX_r, ↓bndX_l, ↓ap_nr, bnd_of, bndX_r, bndX_l, if_true, if_false, ite_true, ite_false, not_true_eq_false, not_false_eq_true, Nat.reduceAdd, Nat.reduceMul, Nat.reduceEqDiff, Int.reduceToNat, Int.reduceNeg, Ilt_t, Ilt_f, Ile_t, Ile_f, Ieq_t, Ieq_f, Nlt_t, Nlt_f, Nle_t, Nle_f, Neq_t, Neq_f, or_true, true_or, or_false, false_or, and_true, true_and, and_false, false_and, ne_eq, or_self, and_self, decide_true, decide_false, Bool.false_eq_true, hL.o, ↓bx hn, ↓bx e1]
  · rw [if_neg d] at hn ha
    subst ha
    refine ⟨_, _, ?_, RA_f 1 (i32 0)⟩
    simp (disch := omega) only [↓reduceIte, add_i0, cast_add1, cast_sub1, toNat120, i32_lit, i32_neg, i32_add, i32_sub, i32_mul, i32_nat, i32_le, i32_lt, i32_eq, inB_i, Int.toNat_natCast, mI_sI_eq, mI_sI_ne, mR_sR_eq, mR_sR_ne, mI_sR, mR_sI, mK_sI, mN_sI, mn_sI, mJ_sI, mK_sR, mN_sR, mn_sR, mJ_sR, mI_wI, mR_wI, mK_wI, mN_wI, mn_wI, mJ_wI, ↓bnd_of, ↓bndX_r, ↓bndX_l, ↓ap_nr, bnd_of, bndX_r, bndX_l, if_true, if_false, ite_true, ite_false, not_true_eq_false, not_false_eq_true, Nat.reduceAdd, Nat.reduceMul, Nat.reduceEqDiff, Int.reduceToNat, Int.reduceNeg, Ilt_t, Ilt_f, Ile_t, Ile_f, Ieq_t, Ieq_f, Nlt_t, Nlt_f, Nle_t, Nle_f, Neq_t, Neq_f, or_true, true_or, or_false, false_or, and_true, true_and, and_false, false_and, ne_eq, or_self, and_self, decide_true, decide_false, Bool.false_eq_true, hL.o, ↓bx hn, hf]
    rfl
theorem r_seenSign (hW : S.wf) (hV : RV M S A) (hw : RVw M V) (hVT : VT S V dp) (r i : Int) (z1 : -2147483648 ≤ r) (z2 : r ≤ 2147483647) (z5 : -2147483648 ≤ i) (z6 : i ≤ 2147483647) : ∃ x M', f_X12_seenSign 134 (i32 r) (i32 i) M = some (x, M') ∧ RA M M' (a_seenSign S A V r i) x := by
  generalize ha : a_seenSign S A V r i = ans
  unfold f_X12_seenSign
  refine ref_start2 hW hV (fun M0 g0 hV0 hc0 => ?_)
  have hS := hW.1
  have hV16 := hVT.1
  have hn := X12_isRecord hV0 r z1 z2
  have hf := X12_fail hV0.1 1
  have hL := hV0.1
  have hw0 := hw.scr hV16 g0
  unfold a_seenSign at ha
  by_cases d : 0 ≤ r ∧ r < A.rc
  · rw [if_pos d] at hn ha
    obtain ⟨M1, e1, gw, f0⟩ := X12_isSeen hW hV0 hw0 hV16 hc0
    have hV1 := hV0.scr hS gw
    have hL1 := hV1.1
    have hf1 := X12_fail hL1 1
    by_cases d2 : V.nf ≠ 0 ∧ (chk S A).1 = 0
    · rw [if_pos d2] at e1
      have hk := (chk_ok S A).mp d2.2
      by_cases d4 : 0 ≤ i
      · obtain ⟨M2, e2, g2, f2, q2⟩ := X12_tell (b := 16) (st := (0 : Int32)) (w := i32 i) (tl := fun _ => true) hW hVT hk (Or.inr rfl) (told_v V (0 : Int32)) d.1 d.2 (RTV_v hV1 (hw0.scr hV16 gw))
        have e2 : f_X12_tell 134 (16 : Int32) (i32 r) (0 : Int32) (i32 i) M1 = _ := e2
        have hL2 := hL1.scr g2
        have hf3 := X12_fail hL2 1
        by_cases d5 : i32 i < lenI (tells S A V (fun _ => true) r) (i32 0)
        · rw [if_pos ⟨d2.1, d2.2, d4, d5⟩] at ha
          have hi := outS_ind (i32 i) (tells S A V (fun _ => true) r) 0 (mI M1 134 43) (i32 (-1)) (hit_of d4 z6 d5)
          have hi : (outS (i32 i) (tells S A V (fun _ => true) r) (i32 0, mI M1 134 43)).2 = (outS (i32 i) (tells S A V (fun _ => true) r) (i32 0, i32 (-1))).2 := hi
          rw [hi] at q2
          have d6 : ¬ (lenI (tells S A V (fun _ => true) r) (i32 0) ≤ i32 i) := Int32.not_le.mpr d5
          subst ha
          refine ⟨_, M2, ?_, RA_2 (gw.tr g2) (by rw [f2]; exact f0) _⟩
          simp (disch := omega) only [↓reduceIte, add_i0, cast_add1, cast_sub1, toNat120, i32_lit, i32_neg, i32_add, i32_sub, i32_mul, i32_nat, i32_le, i32_lt, i32_eq, inB_i, Int.toNat_natCast, mI_sI_eq, mI_sI_ne, mR_sR_eq, mR_sR_ne, mI_sR, mR_sI, mK_sI, mN_sI, mn_sI, mJ_sI, mK_sR, mN_sR, mn_sR, mJ_sR, mI_wI, mR_wI, mK_wI, mN_wI, mn_wI, mJ_wI, ↓bnd_of, ↓bndX_r, ↓bndX_l, ↓ap_nr, bnd_of, bndX_r, bndX_l, if_true, if_false, ite_true, ite_false, not_true_eq_false, not_false_eq_true, Nat.reduceAdd, Nat.reduceMul, Nat.reduceEqDiff, Int.reduceToNat, Int.reduceNeg, Ilt_t, Ilt_f, Ile_t, Ile_f, Ieq_t, Ieq_f, Nlt_t, Nlt_f, Nle_t, Nle_f, Neq_t, Neq_f, or_true, true_or, or_false, false_or, and_true, true_and, and_false, false_and, ne_eq, or_self, and_self, decide_true, decide_false, Bool.false_eq_true, hL.o, ↓bx hn, ↓bx e1, hL1.o, ↓bx e2, d6, hL2.o, q2]
        · rw [if_neg (fun q => d5 q.2.2.2)] at ha
          have d6 : lenI (tells S A V (fun _ => true) r) (i32 0) ≤ i32 i := Int32.not_lt.mp d5
          subst ha
          refine ⟨_, _, ?_, RA_fail (gw.tr g2) 1 (i32 0)⟩
          simp (disch := omega) only [↓reduceIte, add_i0, cast_add1, cast_sub1, toNat120, i32_lit, i32_neg, i32_add, i32_sub, i32_mul, i32_nat, i32_le, i32_lt, i32_eq, inB_i, Int.toNat_natCast, mI_sI_eq, mI_sI_ne, mR_sR_eq, mR_sR_ne, mI_sR, mR_sI, mK_sI, mN_sI, mn_sI, mJ_sI, mK_sR, mN_sR, mn_sR, mJ_sR, mI_wI, mR_wI, mK_wI, mN_wI, mn_wI, mJ_wI, ↓bnd_of, ↓bndX_r, ↓bndX_l, ↓ap_nr, bnd_of, bndX_r, bndX_l, if_true, if_false, ite_true, ite_false, not_true_eq_false, not_false_eq_true, Nat.reduceAdd, Nat.reduceMul, Nat.reduceEqDiff, Int.reduceToNat, Int.reduceNeg, Ilt_t, Ilt_f, Ile_t, Ile_f, Ieq_t, Ieq_f, Nlt_t, Nlt_f, Nle_t, Nle_f, Neq_t, Neq_f, or_true, true_or, or_false, false_or, and_true, true_and, and_false, false_and, ne_eq, or_self, and_self, decide_true, decide_false, Bool.false_eq_true, f_X12_seenSign_44, hL.o, ↓bx hn, ↓bx e1, hL1.o, ↓bx e2, d6, hL2.o, hf3]
          rfl
      · rw [if_neg (fun q => d4 q.2.2.1)] at ha
        subst ha
        refine ⟨_, _, ?_, RA_fail gw 1 (i32 0)⟩
        simp (disch := omega) only [↓reduceIte, add_i0, cast_add1, cast_sub1, toNat120, i32_lit, i32_neg, i32_add, i32_sub, i32_mul, i32_nat, i32_le, i32_lt, i32_eq, inB_i, Int.toNat_natCast, mI_sI_eq, mI_sI_ne, mR_sR_eq, mR_sR_ne, mI_sR, mR_sI, mK_sI, mN_sI, mn_sI, mJ_sI, mK_sR, mN_sR, mn_sR, mJ_sR, mI_wI, mR_wI, mK_wI, mN_wI, mn_wI, mJ_wI, ↓bnd_of, ↓bndX_r, ↓bndX_l, ↓ap_nr, bnd_of, bndX_r, bndX_l, if_true, if_false, ite_true, ite_false, not_true_eq_false, not_false_eq_true, Nat.reduceAdd, Nat.reduceMul, Nat.reduceEqDiff, Int.reduceToNat, Int.reduceNeg, Ilt_t, Ilt_f, Ile_t, Ile_f, Ieq_t, Ieq_f, Nlt_t, Nlt_f, Nle_t, Nle_f, Neq_t, Neq_f, or_true, true_or, or_false, false_or, and_true, true_and, and_false, false_and, ne_eq, or_self, and_self, decide_true, decide_false, Bool.false_eq_true, f_X12_seenSign_44, hL.o, ↓bx hn, ↓bx e1, hL1.o, hf1]
        rfl
    · rw [if_neg d2] at e1
      rw [if_neg (fun q => d2 ⟨q.1, q.2.1⟩)] at ha
      subst ha
      refine ⟨_, _, ?_, RA_fail gw 1 (i32 0)⟩
      simp (disch := omega) only [↓reduceIte, add_i0, cast_add1, cast_sub1, toNat120, i32_lit, i32_neg, i32_add, i32_sub, i32_mul, i32_nat, i32_le, i32_lt, i32_eq, inB_i, Int.toNat_natCast, mI_sI_eq, mI_sI_ne, mR_sR_eq, mR_sR_ne, mI_sR, mR_sI, mK_sI, mN_sI, mn_sI, mJ_sI, mK_sR, mN_sR, mn_sR, mJ_sR, mI_wI, mR_wI, mK_wI, mN_wI, mn_wI, mJ_wI, ↓bnd_of, ↓bndX_r, ↓bndX_l, ↓ap_nr, bnd_of, bndX_r, bndX_l, if_true, if_false, ite_true, ite_false, not_true_eq_false, not_false_eq_true, Nat.reduceAdd, Nat.reduceMul, Nat.reduceEqDiff, Int.reduceToNat, Int.reduceNeg, Ilt_t, Ilt_f, Ile_t, Ile_f, Ieq_t, Ieq_f, Nlt_t, Nlt_f, Nle_t, Nle_f, Neq_t, Neq_f, or_true, true_or, or_false, false_or, and_true, true_and, and_false, false_and, ne_eq, or_self, and_self, decide_true, decide_false, Bool.false_eq_true, f_X12_seenSign_44, hL.o, ↓bx hn, ↓bx e1, hL1.o, hf1]
      rfl
  · rw [if_neg d] at hn ha
    subst ha
    refine ⟨_, _, ?_, RA_f 1 (i32 0)⟩
    simp (disch := omega) only [↓reduceIte, add_i0, cast_add1, cast_sub1, toNat120, i32_lit, i32_neg, i32_add, i32_sub, i32_mul, i32_nat, i32_le, i32_lt, i32_eq, inB_i, Int.toNat_natCast, mI_sI_eq, mI_sI_ne, mR_sR_eq, mR_sR_ne, mI_sR, mR_sI, mK_sI, mN_sI, mn_sI, mJ_sI, mK_sR, mN_sR, mn_sR, mJ_sR, mI_wI, mR_wI, mK_wI, mN_wI, mn_wI, mJ_wI, ↓bnd_of, ↓bndX_r, ↓bndX_l, ↓ap_nr, bnd_of, bndX_r, bndX_l, if_true, if_false, ite_true, ite_false, not_true_eq_false, not_false_eq_true, Nat.reduceAdd, Nat.reduceMul, Nat.reduceEqDiff, Int.reduceToNat, Int.reduceNeg, Ilt_t, Ilt_f, Ile_t, Ile_f, Ieq_t, Ieq_f, Nlt_t, Nlt_f, Nle_t, Nle_f, Neq_t, Neq_f, or_true, true_or, or_false, false_or, and_true, true_and, and_false, false_and, ne_eq, or_self, and_self, decide_true, decide_false, Bool.false_eq_true, f_X12_seenSign_44, hL.o, ↓bx hn, hf]
    rfl
end
