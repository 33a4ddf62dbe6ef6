/-! pipe -/
/-- what the reference's reading of texts writes -/
def rdR (a j : Nat) : Prop := a = 134 ∧ 6 ≤ j ∧ j ≤ 13 ∧ j ≠ 7
theorem rdR_scr : ∀ a j, rdR a j → ScI a j := fun a j q => by rw [q.1]; exact sc_134 (by have := q.2; omega)
theorem tkR_rd : ∀ a j, tkR a j → rdR a j := fun a j q => by unfold tkR at q; unfold rdR; omega
/-- a fault is noted -/
def RBad (M : Mem) (f : Int) (b : Nat) : Prop := mI M 134 12 = i32 f ∧ mI M 134 13 = i32 b ∧ 1 ≤ f ∧ f ≤ 4
section
variable {M : Mem} {tb : Nat → Int} {n e : Nat}
theorem RLay.rdr {M M' : Mem} (h : RLay M) (g : Chg rdR M M') : RLay M' := h.scr (g.scr rdR_scr)
theorem TXr.rdr {M M' : Mem} (h : TXr M tb n) (g : Chg rdR M M') : TXr M' tb n := h.chg g (by unfold rdR; omega) (fun i => by unfold rdR; omega)
theorem X12_wrong (hL : RLay M) (hbad : mI M 134 12 = i32 0) {b : Nat} (h10 : mI M 134 10 = i32 b) (f : Int) (f1 : 1 ≤ f) (f4 : f ≤ 4) : ∃ M', f_X12_wrong 134 (i32 f) M = some ((), M') ∧ Chg rdR M M' ∧ RBad M' f b := by
  refine ⟨sI (sI M 134 12 (i32 f)) 134 13 (i32 b), ?_, ((Chg.rf _ M).sI (by unfold rdR; omega)).sI (by unfold rdR; omega), ?_, ?_, f1, f4⟩
  · simp (disch := omega) only [↓reduceIte, add_i0, cast_add1, cast_sub1, toNat120, i32_lit, i32_neg, i32_add, i32_sub, i32_mul, i32_nat, i32_le, i32_lt, i32_eq, inB_i, Int.toNat_natCast, mI_sI_eq, mI_sI_ne, mR_sR_eq, mR_sR_ne, mI_sR, mR_sI, mK_sI, mN_sI, mn_sI, mJ_sI, mK_sR, mN_sR, mn_sR, mJ_sR, mI_wI, mR_wI, mK_wI, mN_wI, mn_wI, mJ_wI, ↓bnd_of, ↓bndX_r, ↓bndX_l, ↓ap_nr, bnd_of, bndX_r, bndX_l, if_true, if_false, ite_true, ite_false, not_true_eq_false, not_false_eq_true, Nat.reduceAdd, Nat.reduceMul, Nat.reduceEqDiff, Int.reduceToNat, Int.reduceNeg, Ilt_t, Ilt_f, Ile_t, Ile_f, Ieq_t, Ieq_f, Nlt_t, Nlt_f, Nle_t, Nle_f, Neq_t, Neq_f, or_true, true_or, or_false, false_or, and_true, true_and, and_false, false_and, ne_eq, or_self, and_self, decide_true, decide_false, Bool.false_eq_true, f_X12_wrong, hL.o, hbad, h10]
  · simp (disch := omega) only [↓reduceIte, add_i0, cast_add1, cast_sub1, toNat120, i32_lit, i32_neg, i32_add, i32_sub, i32_mul, i32_nat, i32_le, i32_lt, i32_eq, inB_i, Int.toNat_natCast, mI_sI_eq, mI_sI_ne, mR_sR_eq, mR_sR_ne, mI_sR, mR_sI, mK_sI, mN_sI, mn_sI, mJ_sI, mK_sR, mN_sR, mn_sR, mJ_sR, mI_wI, mR_wI, mK_wI, mN_wI, mn_wI, mJ_wI, ↓bnd_of, ↓bndX_r, ↓bndX_l, ↓ap_nr, bnd_of, bndX_r, bndX_l, if_true, if_false, ite_true, ite_false, not_true_eq_false, not_false_eq_true, Nat.reduceAdd, Nat.reduceMul, Nat.reduceEqDiff, Int.reduceToNat, Int.reduceNeg, Ilt_t, Ilt_f, Ile_t, Ile_f, Ieq_t, Ieq_f, Nlt_t, Nlt_f, Nle_t, Nle_f, Neq_t, Neq_f, or_true, true_or, or_false, false_or, and_true, true_and, and_false, false_and, ne_eq, or_self, and_self, decide_true, decide_false, Bool.false_eq_true]
  · simp (disch := omega) only [↓reduceIte, add_i0, cast_add1, cast_sub1, toNat120, i32_lit, i32_neg, i32_add, i32_sub, i32_mul, i32_nat, i32_le, i32_lt, i32_eq, inB_i, Int.toNat_natCast, mI_sI_eq, mI_sI_ne, mR_sR_eq, mR_sR_ne, mI_sR, mR_sI, mK_sI, mN_sI, mn_sI, mJ_sI, mK_sR, mN_sR, mn_sR, mJ_sR, mI_wI, mR_wI, mK_wI, mN_wI, mn_wI, mJ_wI, ↓bnd_of, ↓bndX_r, ↓bndX_l, ↓ap_nr, bnd_of, bndX_r, bndX_l, if_true, if_false, ite_true, ite_false, not_true_eq_false, not_false_eq_true, Nat.reduceAdd, Nat.reduceMul, Nat.reduceEqDiff, Int.reduceToNat, Int.reduceNeg, Ilt_t, Ilt_f, Ile_t, Ile_f, Ieq_t, Ieq_f, Nlt_t, Nlt_f, Nle_t, Nle_f, Neq_t, Neq_f, or_true, true_or, or_false, false_or, and_true, true_and, and_false, false_and, ne_eq, or_self, and_self, decide_true, decide_false, Bool.false_eq_true]
theorem X12_wrongN (hL : RLay M) {f : Int} {b : Nat} (hbad : RBad M f b) (k : Int32) : f_X12_wrong 134 k M = some ((), M) := by
  obtain ⟨h1, h2, h3, h4⟩ := hbad
  simp (disch := omega) only [↓reduceIte, add_i0, cast_add1, cast_sub1, toNat120, i32_lit, i32_neg, i32_add, i32_sub, i32_mul, i32_nat, i32_le, i32_lt, i32_eq, inB_i, Int.toNat_natCast, mI_sI_eq, mI_sI_ne, mR_sR_eq, mR_sR_ne, mI_sR, mR_sI, mK_sI, mN_sI, mn_sI, mJ_sI, mK_sR, mN_sR, mn_sR, mJ_sR, mI_wI, mR_wI, mK_wI, mN_wI, mn_wI, mJ_wI, ↓bnd_of, ↓bndX_r, ↓bndX_l, ↓ap_nr, bnd_of, bndX_r, bndX_l, if_true, if_false, ite_true, ite_false, not_true_eq_false, not_false_eq_true, Nat.reduceAdd, Nat.reduceMul, Nat.reduceEqDiff, Int.reduceToNat, Int.reduceNeg, Ilt_t, Ilt_f, Ile_t, Ile_f, Ieq_t, Ieq_f, Nlt_t, Nlt_f, Nle_t, Nle_f, Neq_t, Neq_f, or_true, true_or, or_false, false_or, and_true, true_and, and_false, false_and, ne_eq, or_self, and_self, decide_true, decide_false, Bool.false_eq_true, f_X12_wrong, hL.o, h1]
theorem X12_isMarked (hL : RLay M) (hT : TXr M tb n) (hk : RTk M tb n e) (he : e ≤ n) (hbad : mI M 134 12 = i32 0) (c : Int) (c0 : 40 ≤ c) (c1 : c ≤ 255) : f_X12_isMarked 134 (i32 c) M = some (if tkK tb n e = c then i32 1 else i32 0, M) := by
  obtain ⟨t1, t2, t3, t4⟩ := hT
  obtain ⟨k1, k2, k3, k4, k5⟩ := hk
  have hb := tk_b tb he
  have kb := tkK_b tb t4 n e
  by_cases d : rkK tb n e = 3
  · have e1 := t2 (tkB tb n e) (by have := kb.2.2.2.2.2.1; omega)
    have e2 := kb.2.2.2.2.2.2.2.2.1 d
    have b := t4 (tkB tb n e)
    have hlt : tkB tb n e < n := by have := kb.2.2.2.2.2.1; omega
    rw [d] at k1
    rw [e2]
    simp (disch := omega) only [↓reduceIte, add_i0, cast_add1, cast_sub1, toNat120, i32_lit, i32_neg, i32_add, i32_sub, i32_mul, i32_nat, i32_le, i32_lt, i32_eq, inB_i, Int.toNat_natCast, mI_sI_eq, mI_sI_ne, mR_sR_eq, mR_sR_ne, mI_sR, mR_sI, mK_sI, mN_sI, mn_sI, mJ_sI, mK_sR, mN_sR, mn_sR, mJ_sR, mI_wI, mR_wI, mK_wI, mN_wI, mn_wI, mJ_wI, ↓bnd_of, ↓bndX_r, ↓bndX_l, ↓ap_nr, bnd_of, bndX_r, bndX_l, if_true, if_false, ite_true, ite_false, not_true_eq_false, not_false_eq_true, Nat.reduceAdd, Nat.reduceMul, Nat.reduceEqDiff, Int.reduceToNat, Int.reduceNeg, Ilt_t, Ilt_f, Ile_t, Ile_f, Ieq_t, Ieq_f, Nlt_t, Nlt_f, Nle_t, Nle_f, Neq_t, Neq_f, or_true, true_or, or_false, false_or, and_true, true_and, and_false, false_and, ne_eq, or_self, and_self, decide_true, decide_false, Bool.false_eq_true, f_X12_isMarked, hL.o, hbad, k1, k2, e1]
    (first | done | with_reducible rfl | ((repeat' split) <;> (first | with_reducible rfl | (exfalso; omega) | skip)))
  · have e2 : ¬ tkK tb n e = c := by have := kb.2.2.2.2.2.2.2.2.2; omega
    rw [if_neg e2]
    simp (disch := omega) only [↓reduceIte, add_i0, cast_add1, cast_sub1, toNat120, i32_lit, i32_neg, i32_add, i32_sub, i32_mul, i32_nat, i32_le, i32_lt, i32_eq, inB_i, Int.toNat_natCast, mI_sI_eq, mI_sI_ne, mR_sR_eq, mR_sR_ne, mI_sR, mR_sI, mK_sI, mN_sI, mn_sI, mJ_sI, mK_sR, mN_sR, mn_sR, mJ_sR, mI_wI, mR_wI, mK_wI, mN_wI, mn_wI, mJ_wI, ↓bnd_of, ↓bndX_r, ↓bndX_l, ↓ap_nr, bnd_of, bndX_r, bndX_l, if_true, if_false, ite_true, ite_false, not_true_eq_false, not_false_eq_true, Nat.reduceAdd, Nat.reduceMul, Nat.reduceEqDiff, Int.reduceToNat, Int.reduceNeg, Ilt_t, Ilt_f, Ile_t, Ile_f, Ieq_t, Ieq_f, Nlt_t, Nlt_f, Nle_t, Nle_f, Neq_t, Neq_f, or_true, true_or, or_false, false_or, and_true, true_and, and_false, false_and, ne_eq, or_self, and_self, decide_true, decide_false, Bool.false_eq_true, f_X12_isMarked, hL.o, hbad, k1]
theorem X12_isMarkedN (hL : RLay M) {f : Int} {b : Nat} (hbad : RBad M f b) (c : Int32) : f_X12_isMarked 134 c M = some (i32 0, M) := by
  obtain ⟨h1, h2, h3, h4⟩ := hbad
  simp (disch := omega) only [↓reduceIte, add_i0, cast_add1, cast_sub1, toNat120, i32_lit, i32_neg, i32_add, i32_sub, i32_mul, i32_nat, i32_le, i32_lt, i32_eq, inB_i, Int.toNat_natCast, mI_sI_eq, mI_sI_ne, mR_sR_eq, mR_sR_ne, mI_sR, mR_sI, mK_sI, mN_sI, mn_sI, mJ_sI, mK_sR, mN_sR, mn_sR, mJ_sR, mI_wI, mR_wI, mK_wI, mN_wI, mn_wI, mJ_wI, ↓bnd_of, ↓bndX_r, ↓bndX_l, ↓ap_nr, bnd_of, bndX_r, bndX_l, if_true, if_false, ite_true, ite_false, not_true_eq_false, not_false_eq_true, Nat.reduceAdd, Nat.reduceMul, Nat.reduceEqDiff, Int.reduceToNat, Int.reduceNeg, Ilt_t, Ilt_f, Ile_t, Ile_f, Ieq_t, Ieq_f, Nlt_t, Nlt_f, Nle_t, Nle_f, Neq_t, Neq_f, or_true, true_or, or_false, false_or, and_true, true_and, and_false, false_and, ne_eq, or_self, and_self, decide_true, decide_false, Bool.false_eq_true, f_X12_isMarked, hL.o, h1]
theorem X12_markN (hL : RLay M) {f : Int} {b : Nat} (hbad : RBad M f b) (c : Int32) : f_X12_mark 134 c M = some ((), M) := by
  obtain ⟨h1, h2, h3, h4⟩ := hbad
  simp (disch := omega) only [↓reduceIte, add_i0, cast_add1, cast_sub1, toNat120, i32_lit, i32_neg, i32_add, i32_sub, i32_mul, i32_nat, i32_le, i32_lt, i32_eq, inB_i, Int.toNat_natCast, mI_sI_eq, mI_sI_ne, mR_sR_eq, mR_sR_ne, mI_sR, mR_sI, mK_sI, mN_sI, mn_sI, mJ_sI, mK_sR, mN_sR, mn_sR, mJ_sR, mI_wI, mR_wI, mK_wI, mN_wI, mn_wI, mJ_wI, ↓bnd_of, ↓bndX_r, ↓bndX_l, ↓ap_nr, bnd_of, bndX_r, bndX_l, if_true, if_false, ite_true, ite_false, not_true_eq_false, not_false_eq_true, Nat.reduceAdd, Nat.reduceMul, Nat.reduceEqDiff, Int.reduceToNat, Int.reduceNeg, Ilt_t, Ilt_f, Ile_t, Ile_f, Ieq_t, Ieq_f, Nlt_t, Nlt_f, Nle_t, Nle_f, Neq_t, Neq_f, or_true, true_or, or_false, false_or, and_true, true_and, and_false, false_and, ne_eq, or_self, and_self, decide_true, decide_false, Bool.false_eq_true, f_X12_mark, f_X12_mark_20, hL.o, h1]
/-- the sign stands there, or not -/
theorem X12_markY (hL : RLay M) (hT : TXr M tb n) (hk : RTk M tb n e) (he : e ≤ n) (hbad : mI M 134 12 = i32 0) (c : Int) (c0 : 40 ≤ c) (c1 : c ≤ 255) (hc : tkK tb n e = c) : ∃ M', f_X12_mark 134 (i32 c) M = some ((), M') ∧ Chg tkR M M' ∧ RTk M' tb n (tkE tb n e) := by
  have em := X12_isMarked hL hT hk he hbad c c0 c1
  rw [if_pos hc] at em
  have hb := tk_b tb he
  obtain ⟨M', e1, g1, q1⟩ := X12_stepOn hL hT hk.2.2.2.1 hb.2.2.2.1
  refine ⟨M', ?_, g1, q1⟩
  simp (disch := omega) only [↓reduceIte, add_i0, cast_add1, cast_sub1, toNat120, i32_lit, i32_neg, i32_add, i32_sub, i32_mul, i32_nat, i32_le, i32_lt, i32_eq, inB_i, Int.toNat_natCast, mI_sI_eq, mI_sI_ne, mR_sR_eq, mR_sR_ne, mI_sR, mR_sI, mK_sI, mN_sI, mn_sI, mJ_sI, mK_sR, mN_sR, mn_sR, mJ_sR, mI_wI, mR_wI, mK_wI, mN_wI, mn_wI, mJ_wI, ↓bnd_of, ↓bndX_r, ↓bndX_l, ↓ap_nr, bnd_of, bndX_r, bndX_l, if_true, if_false, ite_true, ite_false, not_true_eq_false, not_false_eq_true, Nat.reduceAdd, Nat.reduceMul, Nat.reduceEqDiff, Int.reduceToNat, Int.reduceNeg, Ilt_t, Ilt_f, Ile_t, Ile_f, Ieq_t, Ieq_f, Nlt_t, Nlt_f, Nle_t, Nle_f, Neq_t, Neq_f, or_true, true_or, or_false, false_or, and_true, true_and, and_false, false_and, ne_eq, or_self, and_self, decide_true, decide_false, Bool.false_eq_true, f_X12_mark, f_X12_mark_20, hL.o, hbad, ↓bx em, ↓bx e1]
theorem X12_markF (hL : RLay M) (hT : TXr M tb n) (hk : RTk M tb n e) (he : e ≤ n) (hbad : mI M 134 12 = i32 0) (c : Int) (c0 : 40 ≤ c) (c1 : c ≤ 255) (hc : tkK tb n e ≠ c) : ∃ M', f_X12_mark 134 (i32 c) M = some ((), M') ∧ Chg rdR M M' ∧ RBad M' 1 (tkB tb n e) := by
  have em := X12_isMarked hL hT hk he hbad c c0 c1
  rw [if_neg hc] at em
  obtain ⟨M', e1, g1, q1⟩ := X12_wrong hL hbad hk.2.1 1 (by omega) (by omega)
  have e1 : f_X12_wrong 134 (1 : Int32) M = _ := e1
  refine ⟨M', ?_, g1, q1⟩
  have hL1 := hL.rdr g1
  obtain ⟨b1, b2, -⟩ := q1
  simp (disch := omega) only [↓reduceIte, add_i0, cast_add1, cast_sub1, toNat120, i32_lit, i32_neg, i32_add, i32_sub, i32_mul, i32_nat, i32_le, i32_lt, i32_eq, inB_i, Int.toNat_natCast, mI_sI_eq, mI_sI_ne, mR_sR_eq, mR_sR_ne, mI_sR, mR_sI, mK_sI, mN_sI, mn_sI, mJ_sI, mK_sR, mN_sR, mn_sR, mJ_sR, mI_wI, mR_wI, mK_wI, mN_wI, mn_wI, mJ_wI, ↓bnd_of, ↓bndX_r, ↓bndX_l, ↓ap_nr, bnd_of, bndX_r, bndX_l, if_true, if_false, ite_true, ite_false, not_true_eq_false, not_false_eq_true, Nat.reduceAdd, Nat.reduceMul, Nat.reduceEqDiff, Int.reduceToNat, Int.reduceNeg, Ilt_t, Ilt_f, Ile_t, Ile_f, Ieq_t, Ieq_f, Nlt_t, Nlt_f, Nle_t, Nle_f, Neq_t, Neq_f, or_true, true_or, or_false, false_or, and_true, true_and, and_false, false_and, ne_eq, or_self, and_self, decide_true, decide_false, Bool.false_eq_true, f_X12_mark, f_X12_mark_20, hL.o, hbad, ↓bx em, ↓bx e1, hL1.o, b1]
theorem X12_readNumberY (hL : RLay M) (hT : TXr M tb n) (hk : RTk M tb n e) (he : e ≤ n) (hbad : mI M 134 12 = i32 0) (ls : Int) (l0 : 0 ≤ ls) (l1 : ls ≤ 1) (hf : nfS tb n e = 0) (hl : ls ≤ nmS tb n e) : ∃ M', f_X12_readNumber 134 (i32 ls) M = some (i32 (nmS tb n e), M') ∧ Chg tkR M M' ∧ RTk M' tb n (tkE tb n e) := by
  have hb := tk_b tb he
  have hnb := nmS_b tb hf hT.2.2.2
  have kb := tkK_b tb hT.2.2.2 n e
  obtain ⟨M', e1, g1, q1⟩ := X12_stepOn hL hT hk.2.2.2.1 hb.2.2.2.1
  refine ⟨M', ?_, g1, q1⟩
  obtain ⟨k1, k2, k3, k4, k5⟩ := hk
  have k5 := k5 hnb.2.2.2.1
  rw [hnb.2.2.1] at k5
  rw [kb.2.2.2.2.2.2.2.1.mp hnb.2.2.2.1] at k1
  simp (disch := omega) only [↓reduceIte, add_i0, cast_add1, cast_sub1, toNat120, i32_lit, i32_neg, i32_add, i32_sub, i32_mul, i32_nat, i32_le, i32_lt, i32_eq, inB_i, Int.toNat_natCast, mI_sI_eq, mI_sI_ne, mR_sR_eq, mR_sR_ne, mI_sR, mR_sI, mK_sI, mN_sI, mn_sI, mJ_sI, mK_sR, mN_sR, mn_sR, mJ_sR, mI_wI, mR_wI, mK_wI, mN_wI, mn_wI, mJ_wI, ↓bnd_of, ↓bndX_r, ↓bndX_l, ↓ap_nr, bnd_of, bndX_r, bndX_l, if_true, if_false, ite_true, ite_false, not_true_eq_false, not_false_eq_true, Nat.reduceAdd, Nat.reduceMul, Nat.reduceEqDiff, Int.reduceToNat, Int.reduceNeg, Ilt_t, Ilt_f, Ile_t, Ile_f, Ieq_t, Ieq_f, Nlt_t, Nlt_f, Nle_t, Nle_f, Neq_t, Neq_f, or_true, true_or, or_false, false_or, and_true, true_and, and_false, false_and, ne_eq, or_self, and_self, decide_true, decide_false, Bool.false_eq_true, f_X12_readNumber, f_X12_readNumber_51, f_X12_readNumber_66, hL.o, hbad, k1, k2, k3, k5, ↓bx e1]
theorem X12_readNumberF (hL : RLay M) (hT : TXr M tb n) (hk : RTk M tb n e) (he : e ≤ n) (hbad : mI M 134 12 = i32 0) (ls : Int) (l0 : 0 ≤ ls) (l1 : ls ≤ 1) (hf : nfS tb n e ≠ 0 ∨ nmS tb n e < ls) : ∃ M', f_X12_readNumber 134 (i32 ls) M = some (i32 0, M') ∧ Chg rdR M M' ∧ RBad M' (if nfS tb n e ≠ 0 then nfS tb n e else 2) (tkB tb n e) := by
  have hb := tk_b tb he
  have kb := tkK_b tb hT.2.2.2 n e
  by_cases c : nfS tb n e = 0
  · have hl : nmS tb n e < ls := by omega
    have hnb := nmS_b tb c hT.2.2.2
    rw [if_neg (by omega)]
    obtain ⟨M', e1, g1, q1⟩ := X12_wrong hL hbad hk.2.1 2 (by omega) (by omega)
    have e1 : f_X12_wrong 134 (2 : Int32) M = _ := e1
    refine ⟨M', ?_, g1, q1⟩
    have hL1 := hL.rdr g1
    obtain ⟨b1, b2, -⟩ := q1
    obtain ⟨k1, k2, k3, k4, k5⟩ := hk
    have k5 := k5 hnb.2.2.2.1
    rw [hnb.2.2.1] at k5
    rw [kb.2.2.2.2.2.2.2.1.mp hnb.2.2.2.1] at k1
    simp (disch := omega) only [↓reduceIte, add_i0, cast_add1, cast_sub1, toNat120, i32_lit, i32_neg, i32_add, i32_sub, i32_mul, i32_nat, i32_le, i32_lt, i32_eq, inB_i, Int.toNat_natCast, mI_sI_eq, mI_sI_ne, mR_sR_eq, mR_sR_ne, mI_sR, mR_sI, mK_sI, mN_sI, mn_sI, mJ_sI, mK_sR, mN_sR, mn_sR, mJ_sR, mI_wI, mR_wI, mK_wI, mN_wI, mn_wI, mJ_wI, ↓bnd_of, ↓bndX_r, ↓bndX_l, ↓ap_nr, bnd_of, bndX_r, bndX_l, if_true, if_false, ite_true, ite_false, not_true_eq_false, not_false_eq_true, Nat.reduceAdd, Nat.reduceMul, Nat.reduceEqDiff, Int.reduceToNat, Int.reduceNeg, Ilt_t, Ilt_f, Ile_t, Ile_f, Ieq_t, Ieq_f, Nlt_t, Nlt_f, Nle_t, Nle_f, Neq_t, Neq_f, or_true, true_or, or_false, false_or, and_true, true_and, and_false, false_and, ne_eq, or_self, and_self, decide_true, decide_false, Bool.false_eq_true, f_X12_readNumber, f_X12_readNumber_46, f_X12_readNumber_51, f_X12_readNumber_66, hL.o, hbad, k1, k2, k3, k5, ↓bx e1, hL1.o, b1]
  · rw [if_pos c]
    unfold nfS at c ⊢
    by_cases c1 : tkK tb n e = 2
    · rw [if_pos c1] at c ⊢
      have c2 : ¬ tkE tb n e - tkB tb n e ≤ 3 := fun q => by rw [if_pos q] at c; exact c rfl
      rw [if_neg c2]
      obtain ⟨M', e1, g1, q1⟩ := X12_wrong hL hbad hk.2.1 2 (by omega) (by omega)
      have e1 : f_X12_wrong 134 (2 : Int32) M = _ := e1
      refine ⟨M', ?_, g1, q1⟩
      have hL1 := hL.rdr g1
      have h700 := hT.2.2.1
      obtain ⟨b1, b2, -⟩ := q1
      obtain ⟨k1, k2, k3, k4, k5⟩ := hk
      rw [kb.2.2.2.2.2.2.2.1.mp c1] at k1
      simp (disch := omega) only [↓reduceIte, add_i0, cast_add1, cast_sub1, toNat120, i32_lit, i32_neg, i32_add, i32_sub, i32_mul, i32_nat, i32_le, i32_lt, i32_eq, inB_i, Int.toNat_natCast, mI_sI_eq, mI_sI_ne, mR_sR_eq, mR_sR_ne, mI_sR, mR_sI, mK_sI, mN_sI, mn_sI, mJ_sI, mK_sR, mN_sR, mn_sR, mJ_sR, mI_wI, mR_wI, mK_wI, mN_wI, mn_wI, mJ_wI, ↓bnd_of, ↓bndX_r, ↓bndX_l, ↓ap_nr, bnd_of, bndX_r, bndX_l, if_true, if_false, ite_true, ite_false, not_true_eq_false, not_false_eq_true, Nat.reduceAdd, Nat.reduceMul, Nat.reduceEqDiff, Int.reduceToNat, Int.reduceNeg, Ilt_t, Ilt_f, Ile_t, Ile_f, Ieq_t, Ieq_f, Nlt_t, Nlt_f, Nle_t, Nle_f, Neq_t, Neq_f, or_true, true_or, or_false, false_or, and_true, true_and, and_false, false_and, ne_eq, or_self, and_self, decide_true, decide_false, Bool.false_eq_true, f_X12_readNumber, f_X12_readNumber_46, f_X12_readNumber_51, f_X12_readNumber_66, hL.o, hbad, k1, k2, k3, ↓bx e1, hL1.o, b1]
    · rw [if_neg c1]
      obtain ⟨M', e1, g1, q1⟩ := X12_wrong hL hbad hk.2.1 1 (by omega) (by omega)
      have e1 : f_X12_wrong 134 (1 : Int32) M = _ := e1
      refine ⟨M', ?_, g1, q1⟩
      have hL1 := hL.rdr g1
      obtain ⟨b1, b2, -⟩ := q1
      obtain ⟨k1, k2, k3, k4, k5⟩ := hk
      have c1r : ¬ rkK tb n e = 2 := fun q => c1 (kb.2.2.2.2.2.2.2.1.mpr q)
      simp (disch := omega) only [↓reduceIte, add_i0, cast_add1, cast_sub1, toNat120, i32_lit, i32_neg, i32_add, i32_sub, i32_mul, i32_nat, i32_le, i32_lt, i32_eq, inB_i, Int.toNat_natCast, mI_sI_eq, mI_sI_ne, mR_sR_eq, mR_sR_ne, mI_sR, mR_sI, mK_sI, mN_sI, mn_sI, mJ_sI, mK_sR, mN_sR, mn_sR, mJ_sR, mI_wI, mR_wI, mK_wI, mN_wI, mn_wI, mJ_wI, ↓bnd_of, ↓bndX_r, ↓bndX_l, ↓ap_nr, bnd_of, bndX_r, bndX_l, if_true, if_false, ite_true, ite_false, not_true_eq_false, not_false_eq_true, Nat.reduceAdd, Nat.reduceMul, Nat.reduceEqDiff, Int.reduceToNat, Int.reduceNeg, Ilt_t, Ilt_f, Ile_t, Ile_f, Ieq_t, Ieq_f, Nlt_t, Nlt_f, Nle_t, Nle_f, Neq_t, Neq_f, or_true, true_or, or_false, false_or, and_true, true_and, and_false, false_and, ne_eq, or_self, and_self, decide_true, decide_false, Bool.false_eq_true, f_X12_readNumber, f_X12_readNumber_51, f_X12_readNumber_66, hL.o, hbad, k1, ↓bx e1, hL1.o, b1]
theorem X12_readNumberN (hL : RLay M) {f : Int} {b : Nat} (hbad : RBad M f b) (c : Int32) : f_X12_readNumber 134 c M = some (i32 0, M) := by
  obtain ⟨h1, h2, h3, h4⟩ := hbad
  simp (disch := omega) only [↓reduceIte, add_i0, cast_add1, cast_sub1, toNat120, i32_lit, i32_neg, i32_add, i32_sub, i32_mul, i32_nat, i32_le, i32_lt, i32_eq, inB_i, Int.toNat_natCast, mI_sI_eq, mI_sI_ne, mR_sR_eq, mR_sR_ne, mI_sR, mR_sI, mK_sI, mN_sI, mn_sI, mJ_sI, mK_sR, mN_sR, mn_sR, mJ_sR, mI_wI, mR_wI, mK_wI, mN_wI, mn_wI, mJ_wI, ↓bnd_of, ↓bndX_r, ↓bndX_l, ↓ap_nr, bnd_of, bndX_r, bndX_l, if_true, if_false, ite_true, ite_false, not_true_eq_false, not_false_eq_true, Nat.reduceAdd, Nat.reduceMul, Nat.reduceEqDiff, Int.reduceToNat, Int.reduceNeg, Ilt_t, Ilt_f, Ile_t, Ile_f, Ieq_t, Ieq_f, Nlt_t, Nlt_f, Nle_t, Nle_f, Neq_t, Neq_f, or_true, true_or, or_false, false_or, and_true, true_and, and_false, false_and, ne_eq, or_self, and_self, decide_true, decide_false, Bool.false_eq_true, f_X12_readNumber, hL.o, h1]
end
def Pp.push (P : Pp) (w v : Int) : Pp := (P.n + 1, upf P.kd P.n w, upf P.nu P.n v)
/-- steps from the token behind e on -/
def pipF (tb : Nat → Int) (n : Nat) : Nat → Nat → Pp → (Int × Nat) ⊕ Pp
  | 0, _, P => .inr P
  | k + 1, e, P => if tkK tb n e = 0 then .inr P else if swF tb n e = -1 then .inl (1, tkB tb n e) else if 8 ≤ P.n then .inl (2, tkB tb n e) else if nfS tb n (tkE tb n e) ≠ 0 then .inl (nfS tb n (tkE tb n e), tkB tb n (tkE tb n e)) else if swF tb n e = 2 ∧ nmS tb n (tkE tb n e) = 0 then .inl (2, tkB tb n (tkE tb n e)) else if tkK tb n (tkE tb n (tkE tb n e)) = 59 then pipF tb n k (tkE tb n (tkE tb n (tkE tb n e))) (P.push (swF tb n e) (nmS tb n (tkE tb n e))) else .inl (1, tkB tb n (tkE tb n (tkE tb n e)))
theorem Pp.push_ok {P : Pp} (h : P.ok) (h8 : P.n < 8) {w v : Int} (w0 : 0 ≤ w) (w6 : w ≤ 6) (v0 : 0 ≤ v) (v9 : v ≤ 999) (hv : ¬ (w = 2 ∧ v = 0)) : (P.push w v).ok := by
  refine ⟨by unfold Pp.push Pp.n at *; simp only []; omega, fun k hk => ?_⟩
  have hk : k < P.n + 1 := hk
  show 0 ≤ upf P.kd P.n w k ∧ upf P.kd P.n w k ≤ 6 ∧ 0 ≤ upf P.nu P.n v k ∧ upf P.nu P.n v k ≤ 999 ∧ (upf P.kd P.n w k = 2 → 1 ≤ upf P.nu P.n v k)
  by_cases e : k = P.n
  · subst e
    rw [upf_eq, upf_eq]
    omega
  · rw [upf_ne _ _ e, upf_ne _ _ e]
    exact h.2 k (by omega)
/-- what the class's reading of a pipe at p writes -/
def piC (p a j : Nat) : Prop := tkC a j ∨ (a = p ∧ j = 0) ∨ a = p + 2 ∨ a = p + 3
/-- the reference's steps as they are read: behind the first eight -/
def RP8 (M : Mem) (P : Pp) : Prop := (∀ k, k < P.n → mI M 158 (8 + k) = i32 (P.kd k)) ∧ (∀ k, k < P.n → mI M 159 (8 + k) = i32 (P.nu k))
def piR (a j : Nat) : Prop := rdR a j ∨ ((a = 158 ∨ a = 159) ∧ 8 ≤ j)
theorem piR_scr : ∀ a j, piR a j → ScI a j := fun a j q => by
  rcases q with q | ⟨q1, q2⟩
  · exact rdR_scr a j q
  · exact sc_158 q1 q2
theorem toNatA8 (i : Nat) : (8 + (i : Int)).toNat = 8 + i := by omega
section
variable {M : Mem} {tb : Nat → Int} {n e p : Nat}
/-- what the class's reading keeps -/
theorem PiLay.pic {M M' : Mem} {q : Nat} (h : PiLay M q) (g : Chg (piC p) M M') : PiLay M' q := by
  obtain ⟨hK, hN, -, -, hR, -⟩ := g
  unfold PiLay PiLay' at h ⊢
  simp only [hK, hN, hR]
  exact h
theorem CLay.pic {M M' : Mem} (h : CLay M) (g : Chg (piC p) M M') : CLay M' := by
  obtain ⟨hK, hN, -, -, hR, -⟩ := g
  unfold CLay CLay' at h ⊢
  simp only [hK, hN, hR]
  exact h
theorem TXc.pic {M M' : Mem} (h : TXc M tb n) (hp : 124 ≤ p) (g : Chg (piC p) M M') : TXc M' tb n := h.chg g (by unfold piC tkC; omega) (fun i => by unfold piC tkC; omega)
theorem X3_read7 (hp : p = 124 ∨ p = 129) : ∀ (k i m : Nat) (e : Nat) (P : Pp) (M : Mem), e ≤ n → n - e < k → n - e < m → i ≤ e → CLay M → PiLay M p → TXc M tb n → CTk M tb n e → P.ok → CP M p P → ∃ r M', f_X3_read_7 m p 2 (i32 i) M = some (i32 r, M') ∧ Chg (piC p) M M' ∧ (match pipF tb n k e P with
    | .inl q => r = q.1 ∧ 1 ≤ r ∧ r ≤ 2 ∧ mI M' 2 4 = i32 q.2 ∧ q.2 ≤ 700
    | .inr P' => r = 0 ∧ P'.ok ∧ CP M' p P') := by
  intro k
  induction k with
  | zero => intro i m e P M h1 h2; omega
  | succ k ih =>
    intro i m e P M he hk hm hi hL hPL hT hC hP hCP
    obtain ⟨m, rfl⟩ : ∃ q, m = q + 1 := ⟨m - 1, by omega⟩
    have h700 := hT.2.2.1
    have hb := tk_b tb he
    have kb := tkK_b tb hT.2.2.2 n e
    have hsb := swF_b tb n e
    have hp8 := hP.1
    have k1 := hC.1
    unfold pipF
    by_cases c0 : tkK tb n e = 0
    · rw [if_pos c0]
      rw [c0] at k1
      refine ⟨0, M, ?_, Chg.rf _ M, rfl, hP, hCP⟩
      simp (disch := omega) only [↓reduceIte, add_i0, cast_add1, cast_sub1, toNat120, i32_lit, i32_neg, i32_add, i32_sub, i32_mul, i32_nat, i32_le, i32_lt, i32_eq, inB_i, Int.toNat_natCast, mI_sI_eq, mI_sI_ne, mR_sR_eq, mR_sR_ne, mI_sR, mR_sI, mK_sI, mN_sI, mn_sI, mJ_sI, mK_sR, mN_sR, mn_sR, mJ_sR, mI_wI, mR_wI, mK_wI, mN_wI, mn_wI, mJ_wI, ↓bnd_of, ↓bndX_r, ↓bndX_l, ↓ap_nr, bnd_of, bndX_r, bndX_l, if_true, if_false, ite_true, ite_false, not_true_eq_false, not_false_eq_true, Nat.reduceAdd, Nat.reduceMul, Nat.reduceEqDiff, Int.reduceToNat, Int.reduceNeg, Ilt_t, Ilt_f, Ile_t, Ile_f, Ieq_t, Ieq_f, Nlt_t, Nlt_f, Nle_t, Nle_f, Neq_t, Neq_f, or_true, true_or, or_false, false_or, and_true, true_and, and_false, false_and, ne_eq, or_self, and_self, decide_true, decide_false, Bool.false_eq_true, f_X3_read_7, hL.o, k1]
    · rw [if_neg c0]
      have hlt : tkB tb n e < n := by have := kb.2.2.1; omega
      have eki := X3_kindTold hL hT hC he
      -- one step
      have fin : ∀ (r : Int) (M1 : Mem), r ≠ 0 → 1 ≤ r → r ≤ 2 → f_X3_readStep p 2 M = some (i32 r, M1) → f_X3_read_7 (m + 1) p 2 (i32 i) M = some (i32 r, M1) := by
        intro r M1 r0 r1 r2 er
        simp (disch := omega) only [↓reduceIte, add_i0, cast_add1, cast_sub1, toNat120, i32_lit, i32_neg, i32_add, i32_sub, i32_mul, i32_nat, i32_le, i32_lt, i32_eq, inB_i, Int.toNat_natCast, mI_sI_eq, mI_sI_ne, mR_sR_eq, mR_sR_ne, mI_sR, mR_sI, mK_sI, mN_sI, mn_sI, mJ_sI, mK_sR, mN_sR, mn_sR, mJ_sR, mI_wI, mR_wI, mK_wI, mN_wI, mn_wI, mJ_wI, ↓bnd_of, ↓bndX_r, ↓bndX_l, ↓ap_nr, bnd_of, bndX_r, bndX_l, if_true, if_false, ite_true, ite_false, not_true_eq_false, not_false_eq_true, Nat.reduceAdd, Nat.reduceMul, Nat.reduceEqDiff, Int.reduceToNat, Int.reduceNeg, Ilt_t, Ilt_f, Ile_t, Ile_f, Ieq_t, Ieq_f, Nlt_t, Nlt_f, Nle_t, Nle_f, Neq_t, Neq_f, or_true, true_or, or_false, false_or, and_true, true_and, and_false, false_and, ne_eq, or_self, and_self, decide_true, decide_false, Bool.false_eq_true, f_X3_read_7, hL.o, k1, hPL.o, ↓bx er]
      by_cases c1 : swF tb n e = -1
      · rw [if_pos c1]
        rw [c1] at eki
        refine ⟨1, M, fin 1 M (by omega) (by omega) (by omega) ?_, Chg.rf _ M, rfl, by omega, by omega, hC.2.1, by show tkB tb n e ≤ 700; omega⟩
        simp (disch := omega) only [↓reduceIte, add_i0, cast_add1, cast_sub1, toNat120, i32_lit, i32_neg, i32_add, i32_sub, i32_mul, i32_nat, i32_le, i32_lt, i32_eq, inB_i, Int.toNat_natCast, mI_sI_eq, mI_sI_ne, mR_sR_eq, mR_sR_ne, mI_sR, mR_sI, mK_sI, mN_sI, mn_sI, mJ_sI, mK_sR, mN_sR, mn_sR, mJ_sR, mI_wI, mR_wI, mK_wI, mN_wI, mn_wI, mJ_wI, ↓bnd_of, ↓bndX_r, ↓bndX_l, ↓ap_nr, bnd_of, bndX_r, bndX_l, if_true, if_false, ite_true, ite_false, not_true_eq_false, not_false_eq_true, Nat.reduceAdd, Nat.reduceMul, Nat.reduceEqDiff, Int.reduceToNat, Int.reduceNeg, Ilt_t, Ilt_f, Ile_t, Ile_f, Ieq_t, Ieq_f, Nlt_t, Nlt_f, Nle_t, Nle_f, Neq_t, Neq_f, or_true, true_or, or_false, false_or, and_true, true_and, and_false, false_and, ne_eq, or_self, and_self, decide_true, decide_false, Bool.false_eq_true, f_X3_readStep, ↓bx eki]
      · rw [if_neg c1]
        by_cases c2 : 8 ≤ P.n
        · rw [if_pos c2]
          have q0 := hCP.1
          refine ⟨2, M, fin 2 M (by omega) (by omega) (by omega) ?_, Chg.rf _ M, rfl, by omega, by omega, hC.2.1, by show tkB tb n e ≤ 700; omega⟩
          simp (disch := omega) only [↓reduceIte, add_i0, cast_add1, cast_sub1, toNat120, i32_lit, i32_neg, i32_add, i32_sub, i32_mul, i32_nat, i32_le, i32_lt, i32_eq, inB_i, Int.toNat_natCast, mI_sI_eq, mI_sI_ne, mR_sR_eq, mR_sR_ne, mI_sR, mR_sI, mK_sI, mN_sI, mn_sI, mJ_sI, mK_sR, mN_sR, mn_sR, mJ_sR, mI_wI, mR_wI, mK_wI, mN_wI, mn_wI, mJ_wI, ↓bnd_of, ↓bndX_r, ↓bndX_l, ↓ap_nr, bnd_of, bndX_r, bndX_l, if_true, if_false, ite_true, ite_false, not_true_eq_false, not_false_eq_true, Nat.reduceAdd, Nat.reduceMul, Nat.reduceEqDiff, Int.reduceToNat, Int.reduceNeg, Ilt_t, Ilt_f, Ile_t, Ile_f, Ieq_t, Ieq_f, Nlt_t, Nlt_f, Nle_t, Nle_f, Neq_t, Neq_f, or_true, true_or, or_false, false_or, and_true, true_and, and_false, false_and, ne_eq, or_self, and_self, decide_true, decide_false, Bool.false_eq_true, f_X3_readStep, ↓bx eki, hPL.o, q0]
        · rw [if_neg c2]
          have q0 := hCP.1
          obtain ⟨M1, e1, g1, t1⟩ := X9_advance hL hT hC.2.2 hb.2.2.2.1
          have hL1 := hL.tkc g1
          have hT1 := hT.tkc g1
          have hb1 := tk_b tb hb.2.2.2.1
          have g1' : Chg (piC p) M M1 := g1.mono (fun a j q => Or.inl q)
          have hPL1 := hPL.pic g1'
          have enf := X9_numberFault hL1 hT1 t1 hb.2.2.2.1
          have hnfb : 0 ≤ nfS tb n (tkE tb n e) ∧ nfS tb n (tkE tb n e) ≤ 2 := by unfold nfS; repeat' split; all_goals omega
          by_cases c3 : nfS tb n (tkE tb n e) = 0
          · rw [if_neg (by omega)]
            have hnb := nmS_b tb c3 hT.2.2.2
            have enm := X9_number hL1 hT1 t1 hb.2.2.2.1 c3
            rw [c3] at enf
            by_cases c4 : swF tb n e = 2 ∧ nmS tb n (tkE tb n e) = 0
            · rw [if_pos c4]
              rw [c4.1] at eki
              rw [c4.2] at enm
              refine ⟨2, M1, fin 2 M1 (by omega) (by omega) (by omega) ?_, g1', rfl, by omega, by omega, t1.2.1, by show tkB tb n (tkE tb n e) ≤ 700; omega⟩
              simp (disch := omega) only [↓reduceIte, add_i0, cast_add1, cast_sub1, toNat120, i32_lit, i32_neg, i32_add, i32_sub, i32_mul, i32_nat, i32_le, i32_lt, i32_eq, inB_i, Int.toNat_natCast, mI_sI_eq, mI_sI_ne, mR_sR_eq, mR_sR_ne, mI_sR, mR_sI, mK_sI, mN_sI, mn_sI, mJ_sI, mK_sR, mN_sR, mn_sR, mJ_sR, mI_wI, mR_wI, mK_wI, mN_wI, mn_wI, mJ_wI, ↓bnd_of, ↓bndX_r, ↓bndX_l, ↓ap_nr, bnd_of, bndX_r, bndX_l, if_true, if_false, ite_true, ite_false, not_true_eq_false, not_false_eq_true, Nat.reduceAdd, Nat.reduceMul, Nat.reduceEqDiff, Int.reduceToNat, Int.reduceNeg, Ilt_t, Ilt_f, Ile_t, Ile_f, Ieq_t, Ieq_f, Nlt_t, Nlt_f, Nle_t, Nle_f, Neq_t, Neq_f, or_true, true_or, or_false, false_or, and_true, true_and, and_false, false_and, ne_eq, or_self, and_self, decide_true, decide_false, Bool.false_eq_true, f_X3_readStep, ↓bx eki, hPL.o, q0, hL.o, ↓bx e1, hL1.o, ↓bx enf, ↓bx enm]
            · rw [if_neg c4]
              -- the step is written
              have q01 : mI M1 p 0 = i32 P.n := by rw [g1.i (by unfold tkC; omega)]; exact q0
              have gA : Chg (piC p) M1 (sI M1 (p + 2) P.n (i32 (swF tb n e))) := (Chg.rf _ M1).sI (by unfold piC; omega)
              have enm2 := X9_number (hL1.pic gA) (hT1.pic (by omega) gA) (M := sI M1 (p + 2) P.n (i32 (swF tb n e))) (e := tkE tb n e) ⟨by simp (disch := omega) only [↓reduceIte, add_i0, cast_add1, cast_sub1, toNat120, i32_lit, i32_neg, i32_add, i32_sub, i32_mul, i32_nat, i32_le, i32_lt, i32_eq, inB_i, Int.toNat_natCast, mI_sI_eq, mI_sI_ne, mR_sR_eq, mR_sR_ne, mI_sR, mR_sI, mK_sI, mN_sI, mn_sI, mJ_sI, mK_sR, mN_sR, mn_sR, mJ_sR, mI_wI, mR_wI, mK_wI, mN_wI, mn_wI, mJ_wI, ↓bnd_of, ↓bndX_r, ↓bndX_l, ↓ap_nr, bnd_of, bndX_r, bndX_l, if_true, if_false, ite_true, ite_false, not_true_eq_false, not_false_eq_true, Nat.reduceAdd, Nat.reduceMul, Nat.reduceEqDiff, Int.reduceToNat, Int.reduceNeg, Ilt_t, Ilt_f, Ile_t, Ile_f, Ieq_t, Ieq_f, Nlt_t, Nlt_f, Nle_t, Nle_f, Neq_t, Neq_f, or_true, true_or, or_false, false_or, and_true, true_and, and_false, false_and, ne_eq, or_self, and_self, decide_true, decide_false, Bool.false_eq_true, t1.1], by simp (disch := omega) only [↓reduceIte, add_i0, cast_add1, cast_sub1, toNat120, i32_lit, i32_neg, i32_add, i32_sub, i32_mul, i32_nat, i32_le, i32_lt, i32_eq, inB_i, Int.toNat_natCast, mI_sI_eq, mI_sI_ne, mR_sR_eq, mR_sR_ne, mI_sR, mR_sI, mK_sI, mN_sI, mn_sI, mJ_sI, mK_sR, mN_sR, mn_sR, mJ_sR, mI_wI, mR_wI, mK_wI, mN_wI, mn_wI, mJ_wI, ↓bnd_of, ↓bndX_r, ↓bndX_l, ↓ap_nr, bnd_of, bndX_r, bndX_l, if_true, if_false, ite_true, ite_false, not_true_eq_false, not_false_eq_true, Nat.reduceAdd, Nat.reduceMul, Nat.reduceEqDiff, Int.reduceToNat, Int.reduceNeg, Ilt_t, Ilt_f, Ile_t, Ile_f, Ieq_t, Ieq_f, Nlt_t, Nlt_f, Nle_t, Nle_f, Neq_t, Neq_f, or_true, true_or, or_false, false_or, and_true, true_and, and_false, false_and, ne_eq, or_self, and_self, decide_true, decide_false, Bool.false_eq_true, t1.2.1], by simp (disch := omega) only [↓reduceIte, add_i0, cast_add1, cast_sub1, toNat120, i32_lit, i32_neg, i32_add, i32_sub, i32_mul, i32_nat, i32_le, i32_lt, i32_eq, inB_i, Int.toNat_natCast, mI_sI_eq, mI_sI_ne, mR_sR_eq, mR_sR_ne, mI_sR, mR_sI, mK_sI, mN_sI, mn_sI, mJ_sI, mK_sR, mN_sR, mn_sR, mJ_sR, mI_wI, mR_wI, mK_wI, mN_wI, mn_wI, mJ_wI, ↓bnd_of, ↓bndX_r, ↓bndX_l, ↓ap_nr, bnd_of, bndX_r, bndX_l, if_true, if_false, ite_true, ite_false, not_true_eq_false, not_false_eq_true, Nat.reduceAdd, Nat.reduceMul, Nat.reduceEqDiff, Int.reduceToNat, Int.reduceNeg, Ilt_t, Ilt_f, Ile_t, Ile_f, Ieq_t, Ieq_f, Nlt_t, Nlt_f, Nle_t, Nle_f, Neq_t, Neq_f, or_true, true_or, or_false, false_or, and_true, true_and, and_false, false_and, ne_eq, or_self, and_self, decide_true, decide_false, Bool.false_eq_true, t1.2.2]⟩ hb.2.2.2.1 c3
              have gB : Chg (piC p) M1 (sI (sI (sI M1 (p + 2) P.n (i32 (swF tb n e))) (p + 3) P.n (i32 (nmS tb n (tkE tb n e)))) p 0 (i32 ((P.n + 1 : Nat) : Int))) := (gA.sI (by unfold piC; omega)).sI (by unfold piC; omega)
              have hLB := hL1.pic gB
              obtain ⟨M2, e2, g2, t2⟩ := X9_advance hLB (hT1.pic (by omega) gB) (e := tkE tb n (tkE tb n e)) (by simp (disch := omega) only [↓reduceIte, add_i0, cast_add1, cast_sub1, toNat120, i32_lit, i32_neg, i32_add, i32_sub, i32_mul, i32_nat, i32_le, i32_lt, i32_eq, inB_i, Int.toNat_natCast, mI_sI_eq, mI_sI_ne, mR_sR_eq, mR_sR_ne, mI_sR, mR_sI, mK_sI, mN_sI, mn_sI, mJ_sI, mK_sR, mN_sR, mn_sR, mJ_sR, mI_wI, mR_wI, mK_wI, mN_wI, mn_wI, mJ_wI, ↓bnd_of, ↓bndX_r, ↓bndX_l, ↓ap_nr, bnd_of, bndX_r, bndX_l, if_true, if_false, ite_true, ite_false, not_true_eq_false, not_false_eq_true, Nat.reduceAdd, Nat.reduceMul, Nat.reduceEqDiff, Int.reduceToNat, Int.reduceNeg, Ilt_t, Ilt_f, Ile_t, Ile_f, Ieq_t, Ieq_f, Nlt_t, Nlt_f, Nle_t, Nle_f, Neq_t, Neq_f, or_true, true_or, or_false, false_or, and_true, true_and, and_false, false_and, ne_eq, or_self, and_self, decide_true, decide_false, Bool.false_eq_true, t1.2.2]) hb1.2.2.2.1
              have g2' : Chg (piC p) _ M2 := g2.mono (fun a j q => Or.inl q)
              have g12 := g1'.tr (gB.tr g2')
              have hL2 := hLB.tkc g2
              have hT2 := (hT1.pic (by omega) gB).tkc g2
              have hb2 := tk_b tb hb1.2.2.2.1
              have kb2 := tkK_b tb hT.2.2.2 n (tkE tb n (tkE tb n e))
              have hP2 := Pp.push_ok hP (by omega) (by omega) hsb.2.1 hnb.1 hnb.2.1 c4
              have q2 := t2.1
              have tail : f_X3_readStep p 2 M = some (if tkK tb n (tkE tb n (tkE tb n e)) = 59 then i32 0 else i32 1, M2) := by
                have e52 : f_X3_readStep_52 p 2 (i32 (swF tb n e)) M1 = some (if tkK tb n (tkE tb n (tkE tb n e)) = 59 then i32 0 else i32 1, M2) := by
                  have kp : mK M1 p = 4 := hPL1.o.1
                  have r3 : mR M1 p 3 = p + 2 := hPL1.o.2.2.1
                  have r4 : mR M1 p 4 = p + 3 := hPL1.o.2.2.2.1
                  have k3 : mK M1 (p + 2) = 21 := hPL1.o.2.2.2.2.2.2.1
                  have k4 : mK M1 (p + 3) = 21 := hPL1.o.2.2.2.2.2.2.2.1
                  have n3 : mN M1 (p + 2) = 8 := hPL1.o.2.2.2.2.2.2.2.2.2.2.1
                  have n4 : mN M1 (p + 3) = 8 := hPL1.o.2.2.2.2.2.2.2.2.2.2.2.1
                  have kt : mK M1 2 = 10 := by simp only [hL1.o]
                  have kt2 : mK M2 2 = 10 := by simp only [hL2.o]
                  have inP : inB (i32 (P.n : Int)) 8 = true := by simp (disch := omega) only [↓reduceIte, add_i0, cast_add1, cast_sub1, toNat120, i32_lit, i32_neg, i32_add, i32_sub, i32_mul, i32_nat, i32_le, i32_lt, i32_eq, inB_i, Int.toNat_natCast, mI_sI_eq, mI_sI_ne, mR_sR_eq, mR_sR_ne, mI_sR, mR_sI, mK_sI, mN_sI, mn_sI, mJ_sI, mK_sR, mN_sR, mn_sR, mJ_sR, mI_wI, mR_wI, mK_wI, mN_wI, mn_wI, mJ_wI, ↓bnd_of, ↓bndX_r, ↓bndX_l, ↓ap_nr, bnd_of, bndX_r, bndX_l, if_true, if_false, ite_true, ite_false, not_true_eq_false, not_false_eq_true, Nat.reduceAdd, Nat.reduceMul, Nat.reduceEqDiff, Int.reduceToNat, Int.reduceNeg, Ilt_t, Ilt_f, Ile_t, Ile_f, Ieq_t, Ieq_f, Nlt_t, Nlt_f, Nle_t, Nle_f, Neq_t, Neq_f, or_true, true_or, or_false, false_or, and_true, true_and, and_false, false_and, ne_eq, or_self, and_self, decide_true, decide_false, Bool.false_eq_true]
                  have nP := nat_i (k := P.n) (by omega)
                  have m0 : mI (sI M1 (p + 2) P.n (i32 (swF tb n e))) p 0 = i32 P.n := by rw [mI_sI_ne (by omega)]; exact q01
                  have m1 : mI (sI (sI M1 (p + 2) P.n (i32 (swF tb n e))) (p + 3) P.n (i32 (nmS tb n (tkE tb n e)))) p 0 = i32 P.n := by rw [mI_sI_ne (by omega)]; exact m0
                  unfold f_X3_readStep_52
                  rw [if_pos kp, r3, if_pos k3, q01, n3, if_pos inP, ap_of, nP, if_pos (by exact kp), if_pos (by exact kt), bx enm2, mR_sI, r4, if_pos (by exact k4), m0, mN_sI, n4, if_pos inP, ap_of, nP, if_pos (by exact kp), m1, k_add1, ap_of, if_pos (by exact kt), bx e2, if_pos kt2, q2]
                  by_cases c6 : tkK tb n (tkE tb n (tkE tb n e)) = 59
                  · rw [if_pos c6, if_pos (by rw [c6]; rfl)]
                    rfl
                  · have c7 : ¬ (i32 (tkK tb n (tkE tb n (tkE tb n e))) = i32 59) := i32_ne (by omega) (by omega) (by omega) (by omega) c6
                    rw [if_neg c6, if_neg (by exact c7)]
                    rfl
                by_cases c5 : swF tb n e = 2
                · have : nmS tb n (tkE tb n e) ≠ 0 := fun q => c4 ⟨c5, q⟩
                  rw [c5] at eki e52
                  simp (disch := omega) only [↓reduceIte, add_i0, cast_add1, cast_sub1, toNat120, i32_lit, i32_neg, i32_add, i32_sub, i32_mul, i32_nat, i32_le, i32_lt, i32_eq, inB_i, Int.toNat_natCast, mI_sI_eq, mI_sI_ne, mR_sR_eq, mR_sR_ne, mI_sR, mR_sI, mK_sI, mN_sI, mn_sI, mJ_sI, mK_sR, mN_sR, mn_sR, mJ_sR, mI_wI, mR_wI, mK_wI, mN_wI, mn_wI, mJ_wI, ↓bnd_of, ↓bndX_r, ↓bndX_l, ↓ap_nr, bnd_of, bndX_r, bndX_l, if_true, if_false, ite_true, ite_false, not_true_eq_false, not_false_eq_true, Nat.reduceAdd, Nat.reduceMul, Nat.reduceEqDiff, Int.reduceToNat, Int.reduceNeg, Ilt_t, Ilt_f, Ile_t, Ile_f, Ieq_t, Ieq_f, Nlt_t, Nlt_f, Nle_t, Nle_f, Neq_t, Neq_f, or_true, true_or, or_false, false_or, and_true, true_and, and_false, false_and, ne_eq, or_self, and_self, decide_true, decide_false, Bool.false_eq_true, f_X3_readStep, ↓bx eki, hPL.o, q0, hL.o, ↓bx e1, hL1.o, ↓bx enf, ↓bx enm, e52]
                · simp (disch := omega) only [↓reduceIte, add_i0, cast_add1, cast_sub1, toNat120, i32_lit, i32_neg, i32_add, i32_sub, i32_mul, i32_nat, i32_le, i32_lt, i32_eq, inB_i, Int.toNat_natCast, mI_sI_eq, mI_sI_ne, mR_sR_eq, mR_sR_ne, mI_sR, mR_sI, mK_sI, mN_sI, mn_sI, mJ_sI, mK_sR, mN_sR, mn_sR, mJ_sR, mI_wI, mR_wI, mK_wI, mN_wI, mn_wI, mJ_wI, ↓bnd_of, ↓bndX_r, ↓bndX_l, ↓ap_nr, bnd_of, bndX_r, bndX_l, if_true, if_false, ite_true, ite_false, not_true_eq_false, not_false_eq_true, Nat.reduceAdd, Nat.reduceMul, Nat.reduceEqDiff, Int.reduceToNat, Int.reduceNeg, Ilt_t, Ilt_f, Ile_t, Ile_f, Ieq_t, Ieq_f, Nlt_t, Nlt_f, Nle_t, Nle_f, Neq_t, Neq_f, or_true, true_or, or_false, false_or, and_true, true_and, and_false, false_and, ne_eq, or_self, and_self, decide_true, decide_false, Bool.false_eq_true, f_X3_readStep, ↓bx eki, hPL.o, q0, hL.o, ↓bx e1, hL1.o, ↓bx enf, e52]
              by_cases c6 : tkK tb n (tkE tb n (tkE tb n e)) = 59
              · rw [if_pos c6] at tail ⊢
                obtain ⟨M3, e3, g3, t3⟩ := X9_advance hL2 hT2 t2.2.2 hb2.2.2.2.1
                have g3' : Chg (piC p) M2 M3 := g3.mono (fun a j q => Or.inl q)
                have hCP3 : CP M3 p (P.push (swF tb n e) (nmS tb n (tkE tb n e))) := by
                  have f0 : ∀ a j, 124 ≤ a → mI M3 a j = mI (sI (sI (sI M1 (p + 2) P.n (i32 (swF tb n e))) (p + 3) P.n (i32 (nmS tb n (tkE tb n e)))) p 0 (i32 ((P.n + 1 : Nat) : Int))) a j := fun a j q => by rw [g3.i (by unfold tkC; omega), g2.i (by unfold tkC; omega)]
                  refine ⟨?_, fun k hk => ?_, fun k hk => ?_⟩
                  · rw [f0 _ _ (by omega)]
                    exact mI_sI_eq
                  · have hk : k < P.n + 1 := hk
                    show _ = i32 (upf P.kd P.n (swF tb n e) k)
                    rw [f0 _ _ (by omega)]
                    by_cases e : k = P.n
                    · subst e; rw [upf_eq]; simp (disch := omega) only [↓reduceIte, add_i0, cast_add1, cast_sub1, toNat120, i32_lit, i32_neg, i32_add, i32_sub, i32_mul, i32_nat, i32_le, i32_lt, i32_eq, inB_i, Int.toNat_natCast, mI_sI_eq, mI_sI_ne, mR_sR_eq, mR_sR_ne, mI_sR, mR_sI, mK_sI, mN_sI, mn_sI, mJ_sI, mK_sR, mN_sR, mn_sR, mJ_sR, mI_wI, mR_wI, mK_wI, mN_wI, mn_wI, mJ_wI, ↓bnd_of, ↓bndX_r, ↓bndX_l, ↓ap_nr, bnd_of, bndX_r, bndX_l, if_true, if_false, ite_true, ite_false, not_true_eq_false, not_false_eq_true, Nat.reduceAdd, Nat.reduceMul, Nat.reduceEqDiff, Int.reduceToNat, Int.reduceNeg, Ilt_t, Ilt_f, Ile_t, Ile_f, Ieq_t, Ieq_f, Nlt_t, Nlt_f, Nle_t, Nle_f, Neq_t, Neq_f, or_true, true_or, or_false, false_or, and_true, true_and, and_false, false_and, ne_eq, or_self, and_self, decide_true, decide_false, Bool.false_eq_true]
                    · rw [upf_ne _ _ e, ← hCP.2.1 k (by omega), ← g1.i (a := p + 2) (j := k) (by unfold tkC; omega)]; simp (disch := omega) only [↓reduceIte, add_i0, cast_add1, cast_sub1, toNat120, i32_lit, i32_neg, i32_add, i32_sub, i32_mul, i32_nat, i32_le, i32_lt, i32_eq, inB_i, Int.toNat_natCast, mI_sI_eq, mI_sI_ne, mR_sR_eq, mR_sR_ne, mI_sR, mR_sI, mK_sI, mN_sI, mn_sI, mJ_sI, mK_sR, mN_sR, mn_sR, mJ_sR, mI_wI, mR_wI, mK_wI, mN_wI, mn_wI, mJ_wI, ↓bnd_of, ↓bndX_r, ↓bndX_l, ↓ap_nr, bnd_of, bndX_r, bndX_l, if_true, if_false, ite_true, ite_false, not_true_eq_false, not_false_eq_true, Nat.reduceAdd, Nat.reduceMul, Nat.reduceEqDiff, Int.reduceToNat, Int.reduceNeg, Ilt_t, Ilt_f, Ile_t, Ile_f, Ieq_t, Ieq_f, Nlt_t, Nlt_f, Nle_t, Nle_f, Neq_t, Neq_f, or_true, true_or, or_false, false_or, and_true, true_and, and_false, false_and, ne_eq, or_self, and_self, decide_true, decide_false, Bool.false_eq_true, e]
                  · have hk : k < P.n + 1 := hk
                    show _ = i32 (upf P.nu P.n (nmS tb n (tkE tb n _)) k)
                    rw [f0 _ _ (by omega)]
                    by_cases e : k = P.n
                    · subst e; rw [upf_eq]; simp (disch := omega) only [↓reduceIte, add_i0, cast_add1, cast_sub1, toNat120, i32_lit, i32_neg, i32_add, i32_sub, i32_mul, i32_nat, i32_le, i32_lt, i32_eq, inB_i, Int.toNat_natCast, mI_sI_eq, mI_sI_ne, mR_sR_eq, mR_sR_ne, mI_sR, mR_sI, mK_sI, mN_sI, mn_sI, mJ_sI, mK_sR, mN_sR, mn_sR, mJ_sR, mI_wI, mR_wI, mK_wI, mN_wI, mn_wI, mJ_wI, ↓bnd_of, ↓bndX_r, ↓bndX_l, ↓ap_nr, bnd_of, bndX_r, bndX_l, if_true, if_false, ite_true, ite_false, not_true_eq_false, not_false_eq_true, Nat.reduceAdd, Nat.reduceMul, Nat.reduceEqDiff, Int.reduceToNat, Int.reduceNeg, Ilt_t, Ilt_f, Ile_t, Ile_f, Ieq_t, Ieq_f, Nlt_t, Nlt_f, Nle_t, Nle_f, Neq_t, Neq_f, or_true, true_or, or_false, false_or, and_true, true_and, and_false, false_and, ne_eq, or_self, and_self, decide_true, decide_false, Bool.false_eq_true]
                    · rw [upf_ne _ _ e, ← hCP.2.2 k (by omega), ← g1.i (a := p + 3) (j := k) (by unfold tkC; omega)]; simp (disch := omega) only [↓reduceIte, add_i0, cast_add1, cast_sub1, toNat120, i32_lit, i32_neg, i32_add, i32_sub, i32_mul, i32_nat, i32_le, i32_lt, i32_eq, inB_i, Int.toNat_natCast, mI_sI_eq, mI_sI_ne, mR_sR_eq, mR_sR_ne, mI_sR, mR_sI, mK_sI, mN_sI, mn_sI, mJ_sI, mK_sR, mN_sR, mn_sR, mJ_sR, mI_wI, mR_wI, mK_wI, mN_wI, mn_wI, mJ_wI, ↓bnd_of, ↓bndX_r, ↓bndX_l, ↓ap_nr, bnd_of, bndX_r, bndX_l, if_true, if_false, ite_true, ite_false, not_true_eq_false, not_false_eq_true, Nat.reduceAdd, Nat.reduceMul, Nat.reduceEqDiff, Int.reduceToNat, Int.reduceNeg, Ilt_t, Ilt_f, Ile_t, Ile_f, Ieq_t, Ieq_f, Nlt_t, Nlt_f, Nle_t, Nle_f, Neq_t, Neq_f, or_true, true_or, or_false, false_or, and_true, true_and, and_false, false_and, ne_eq, or_self, and_self, decide_true, decide_false, Bool.false_eq_true, e]
                have hlt2 : tkB tb n (tkE tb n (tkE tb n e)) < n := by have := kb2.2.2.1; omega
                obtain ⟨r, M4, e4, g4, q4⟩ := ih (i + 1) m (tkE tb n (tkE tb n (tkE tb n e))) (P.push (swF tb n e) (nmS tb n (tkE tb n e))) M3 hb2.2.2.2.1 (by omega) (by omega) (by omega) (hL2.tkc g3) (PiLay.pic (hPL1.pic (gB.tr g2')) g3') (hT2.tkc g3) t3 hP2 hCP3
                refine ⟨r, M4, ?_, g12.tr (g3'.tr g4), q4⟩
                rw [← e4]
                simp (disch := omega) only [↓reduceIte, add_i0, cast_add1, cast_sub1, toNat120, i32_lit, i32_neg, i32_add, i32_sub, i32_mul, i32_nat, i32_le, i32_lt, i32_eq, inB_i, Int.toNat_natCast, mI_sI_eq, mI_sI_ne, mR_sR_eq, mR_sR_ne, mI_sR, mR_sI, mK_sI, mN_sI, mn_sI, mJ_sI, mK_sR, mN_sR, mn_sR, mJ_sR, mI_wI, mR_wI, mK_wI, mN_wI, mn_wI, mJ_wI, ↓bnd_of, ↓bndX_r, ↓bndX_l, ↓ap_nr, bnd_of, bndX_r, bndX_l, if_true, if_false, ite_true, ite_false, not_true_eq_false, not_false_eq_true, Nat.reduceAdd, Nat.reduceMul, Nat.reduceEqDiff, Int.reduceToNat, Int.reduceNeg, Ilt_t, Ilt_f, Ile_t, Ile_f, Ieq_t, Ieq_f, Nlt_t, Nlt_f, Nle_t, Nle_f, Neq_t, Neq_f, or_true, true_or, or_false, false_or, and_true, true_and, and_false, false_and, ne_eq, or_self, and_self, decide_true, decide_false, Bool.false_eq_true, f_X3_read_7, hL.o, k1, hPL.o, ↓bx tail, hL2.o, ↓bx e3]
              · rw [if_neg c6] at tail ⊢
                exact ⟨1, M2, fin 1 M2 (by omega) (by omega) (by omega) tail, g12, rfl, by omega, by omega, t2.2.1, by show tkB tb n (tkE tb n (tkE tb n e)) ≤ 700; omega⟩
          · rw [if_pos c3]
            refine ⟨nfS tb n (tkE tb n e), M1, fin _ M1 c3 (by omega) hnfb.2 ?_, g1', rfl, by omega, hnfb.2, t1.2.1, by show tkB tb n (tkE tb n e) ≤ 700; omega⟩
            simp (disch := omega) only [↓reduceIte, add_i0, cast_add1, cast_sub1, toNat120, i32_lit, i32_neg, i32_add, i32_sub, i32_mul, i32_nat, i32_le, i32_lt, i32_eq, inB_i, Int.toNat_natCast, mI_sI_eq, mI_sI_ne, mR_sR_eq, mR_sR_ne, mI_sR, mR_sI, mK_sI, mN_sI, mn_sI, mJ_sI, mK_sR, mN_sR, mn_sR, mJ_sR, mI_wI, mR_wI, mK_wI, mN_wI, mn_wI, mJ_wI, ↓bnd_of, ↓bndX_r, ↓bndX_l, ↓ap_nr, bnd_of, bndX_r, bndX_l, if_true, if_false, ite_true, ite_false, not_true_eq_false, not_false_eq_true, Nat.reduceAdd, Nat.reduceMul, Nat.reduceEqDiff, Int.reduceToNat, Int.reduceNeg, Ilt_t, Ilt_f, Ile_t, Ile_f, Ieq_t, Ieq_f, Nlt_t, Nlt_f, Nle_t, Nle_f, Neq_t, Neq_f, or_true, true_or, or_false, false_or, and_true, true_and, and_false, false_and, ne_eq, or_self, and_self, decide_true, decide_false, Bool.false_eq_true, f_X3_readStep, ↓bx eki, hPL.o, q0, hL.o, ↓bx e1, hL1.o, ↓bx enf]
end
