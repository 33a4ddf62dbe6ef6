/-! undo in the class: a record is brought back -/
/-- the leaves before j are brought back, and i entries of leaf j -/
def brS (B' B : St) (j i : Nat) : St := (B.rp, B.df, B.vl, fun l => if l < j then B.sz l else if l = j then B'.sz l + i else B'.sz l, B'.rc)
theorem brS_lt {B' B : St} {j i l : Nat} (h : l < j) : (brS B' B j i).sz l = B.sz l := if_pos h
theorem brS_eq {B' B : St} {j i : Nat} : (brS B' B j i).sz j = B'.sz j + i := by
  show (if j < j then B.sz j else if j = j then B'.sz j + i else B'.sz j) = _
  rw [if_neg (by omega), if_pos rfl]
theorem brS_gt {B' B : St} {j i l : Nat} (h : j < l) : (brS B' B j i).sz l = B'.sz l := by
  show (if l < j then B.sz l else if l = j then B'.sz l + i else B'.sz l) = _
  rw [if_neg (by omega), if_neg (by omega)]
section
variable {M : Mem} {B' B : St} {fu : Nat → Int}
theorem brS_ok {nl : Nat} (hB : B.ok) (hp : PreR nl B' B) {j i : Nat} (hz : ∀ l, B'.sz l ≤ 120) (hi : B'.sz j + i ≤ 120) (hrc : B'.rc ≤ 30) : (brS B' B j i).ok := by
  obtain ⟨h1, h2, h3, h4, h5⟩ := hB
  refine ⟨h1, h2, h3, fun l => ?_, hrc⟩
  by_cases c : l < j
  · rw [brS_lt c]; exact h4 l
  · by_cases d : l = j
    · subst d; rw [brS_eq]; exact hi
    · rw [brS_gt (by omega)]; exact hz l
theorem X2_put (hc : ColLay M 21) {l j : Nat} (hl : l < 8) (hj : j < 120) (a b c : Int32) : f_X2_put (21 + 4 * l) (i32 j) a b c M = some ((), sI (sI (sI M (21 + 4 * l + 1) j a) (21 + 4 * l + 2) j b) (21 + 4 * l + 3) j c) := by
  have hca := hc.at21 hl
  have nj := nat_i (k := j) (by omega)
  have inj : inB (i32 (j : Int)) 120 = true := by clear hca; simp (disch := omega) only [↓reduceIte, add_i0, cast_add1, cast_sub1, toNat120, i32_lit, i32_neg, i32_add, i32_sub, i32_mul, i32_nat, i32_le, i32_lt, i32_eq, inB_i, Int.toNat_natCast, mI_sI_eq, mI_sI_ne, mR_sR_eq, mR_sR_ne, mI_sR, mR_sI, mK_sI, mN_sI, mn_sI, mJ_sI, mK_sR, mN_sR, mn_sR, mJ_sR, mI_wI, mR_wI, mK_wI, mN_wI, mn_wI, mJ_wI, ↓bnd_of, ↓bndX_r, ↓bndX_l, ↓ap_nr, bnd_of, bndX_r, bndX_l, if_true, if_false, ite_true, ite_false, not_true_eq_false, not_false_eq_true, Nat.reduceAdd, Nat.reduceMul, Nat.reduceEqDiff, Int.reduceToNat, Int.reduceNeg, Ilt_t, Ilt_f, Ile_t, Ile_f, Ieq_t, Ieq_f, Nlt_t, Nlt_f, Nle_t, Nle_f, Neq_t, Neq_f, or_true, true_or, or_false, false_or, and_true, true_and, and_false, false_and, ne_eq, or_self, and_self, decide_true, decide_false, Bool.false_eq_true]
  have g1 : ¬ (i32 (j : Int) < 0) := by clear hca; simp (disch := omega) only [↓reduceIte, add_i0, cast_add1, cast_sub1, toNat120, i32_lit, i32_neg, i32_add, i32_sub, i32_mul, i32_nat, i32_le, i32_lt, i32_eq, inB_i, Int.toNat_natCast, mI_sI_eq, mI_sI_ne, mR_sR_eq, mR_sR_ne, mI_sR, mR_sI, mK_sI, mN_sI, mn_sI, mJ_sI, mK_sR, mN_sR, mn_sR, mJ_sR, mI_wI, mR_wI, mK_wI, mN_wI, mn_wI, mJ_wI, ↓bnd_of, ↓bndX_r, ↓bndX_l, ↓ap_nr, bnd_of, bndX_r, bndX_l, if_true, if_false, ite_true, ite_false, not_true_eq_false, not_false_eq_true, Nat.reduceAdd, Nat.reduceMul, Nat.reduceEqDiff, Int.reduceToNat, Int.reduceNeg, Ilt_t, Ilt_f, Ile_t, Ile_f, Ieq_t, Ieq_f, Nlt_t, Nlt_f, Nle_t, Nle_f, Neq_t, Neq_f, or_true, true_or, or_false, false_or, and_true, true_and, and_false, false_and, ne_eq, or_self, and_self, decide_true, decide_false, Bool.false_eq_true]
  have g2 : ¬ ((120 : Int32) ≤ i32 (j : Int)) := by clear hca; simp (disch := omega) only [↓reduceIte, add_i0, cast_add1, cast_sub1, toNat120, i32_lit, i32_neg, i32_add, i32_sub, i32_mul, i32_nat, i32_le, i32_lt, i32_eq, inB_i, Int.toNat_natCast, mI_sI_eq, mI_sI_ne, mR_sR_eq, mR_sR_ne, mI_sR, mR_sI, mK_sI, mN_sI, mn_sI, mJ_sI, mK_sR, mN_sR, mn_sR, mJ_sR, mI_wI, mR_wI, mK_wI, mN_wI, mn_wI, mJ_wI, ↓bnd_of, ↓bndX_r, ↓bndX_l, ↓ap_nr, bnd_of, bndX_r, bndX_l, if_true, if_false, ite_true, ite_false, not_true_eq_false, not_false_eq_true, Nat.reduceAdd, Nat.reduceMul, Nat.reduceEqDiff, Int.reduceToNat, Int.reduceNeg, Ilt_t, Ilt_f, Ile_t, Ile_f, Ieq_t, Ieq_f, Nlt_t, Nlt_f, Nle_t, Nle_f, Neq_t, Neq_f, or_true, true_or, or_false, false_or, and_true, true_and, and_false, false_and, ne_eq, or_self, and_self, decide_true, decide_false, Bool.false_eq_true]
  unfold f_X2_put
  rw [if_neg g1, if_neg g2, if_pos hca.o.1, hca.o.2.1, if_pos hca.o.2.2.2.2.1, hca.o.2.2.2.2.2.2.2.1, if_pos inj, nj, ap_of, mK_sI, if_pos hca.o.1, mR_sI, hca.o.2.2.1, if_pos hca.o.2.2.2.2.2.1, mN_sI, hca.o.2.2.2.2.2.2.2.2.1, if_pos inj, ap_of, mK_sI, mK_sI, if_pos hca.o.1, mR_sI, mR_sI, hca.o.2.2.2.1, if_pos hca.o.2.2.2.2.2.2.1, mN_sI, mN_sI, hca.o.2.2.2.2.2.2.2.2.2.1, if_pos inj, ap_of]
theorem X2_unpack (hc : ColLay M 21) {l j : Nat} (hl : l < 8) (hj : j < 120) {v r d : Nat} (hv : v < 1000) (hr : r < 16) (hd : d < 16) : f_X2_unpack (21 + 4 * l) (i32 j) (i32 ((256 * v + 16 * r + d : Nat) : Int)) M = some ((), sI (sI (sI M (21 + 4 * l + 1) j (i32 r)) (21 + 4 * l + 2) j (i32 d)) (21 + 4 * l + 3) j (i32 v)) := by
  have hca := hc.at21 hl
  obtain ⟨u1, u2, u3⟩ := upk_bits hv hr hd
  unfold f_X2_unpack
  rw [if_pos hca.o.1, u1, u2, u3, bx (X2_put hc hl hj _ _ _)]
def bnI (a j : Nat) : Prop := (a = 18 ∧ j = 1) ∨ (21 ≤ a ∧ a ≤ 52)
/-- one entry more -/
theorem CC.ent {nl j i : Nat} (hB : B.ok) (hp : PreR nl B' B) (h : CC M 21 fu (brS B' B j i)) (hz : ∀ l, B'.sz l ≤ 120) (hrc : B'.rc ≤ 30) (hj : j < 8) (hi : B'.sz j + i < B.sz j) : CC (sI (sI (sI (sI M (21 + 4 * j + 1) (B'.sz j + i) (i32 (B.rp j (B'.sz j + i)))) (21 + 4 * j + 2) (B'.sz j + i) (i32 (B.df j (B'.sz j + i)))) (21 + 4 * j + 3) (B'.sz j + i) (i32 (B.vl j (B'.sz j + i)))) (21 + 4 * j) 3 (i32 ((B'.sz j + (i + 1) : Nat) : Int))) 21 fu (brS B' B j (i + 1)) := by
  have hz4 := hB.2.2.2.1 j
  obtain ⟨a0, a1, a2, a3, a4, a5, a6⟩ := h
  have szne : ∀ l, l ≠ j → (brS B' B j (i + 1)).sz l = (brS B' B j i).sz l := fun l c => by
    by_cases d : l < j
    · rw [brS_lt d, brS_lt d]
    · rw [brS_gt (by omega), brS_gt (by omega)]
  have sz0 : (brS B' B j i).sz j = B'.sz j + i := brS_eq
  have sz1 : (brS B' B j (i + 1)).sz j = B'.sz j + (i + 1) := brS_eq
  refine ⟨brS_ok hB hp hz (by omega) hrc, fun l q => ?_, fun l t q r => ?_, fun l t q r => ?_, fun l t q r => ?_, fun l q => ?_, a6⟩
  · by_cases c : l = j
    · subst c
      rw [mI_sI_eq, sz1]
    · rw [mI_sI_ne (by omega), mI_sI_ne (by omega), mI_sI_ne (by omega), mI_sI_ne (by omega), szne l c]; exact a1 l q
  · rw [mI_sI_ne (by omega), mI_sI_ne (by omega), mI_sI_ne (by omega)]
    by_cases c : l = j ∧ t = B'.sz j + i
    · rw [c.1, c.2, mI_sI_eq]; rfl
    · rw [mI_sI_ne (by omega)]
      refine a2 l t q ?_
      by_cases d : l = j
      · subst d; omega
      · rw [← szne l d]; exact r
  · rw [mI_sI_ne (by omega), mI_sI_ne (by omega)]
    by_cases c : l = j ∧ t = B'.sz j + i
    · rw [c.1, c.2, mI_sI_eq]; rfl
    · rw [mI_sI_ne (by omega), mI_sI_ne (by omega)]
      refine a3 l t q ?_
      by_cases d : l = j
      · subst d; omega
      · rw [← szne l d]; exact r
  · rw [mI_sI_ne (by omega)]
    by_cases c : l = j ∧ t = B'.sz j + i
    · rw [c.1, c.2, mI_sI_eq]; rfl
    · rw [mI_sI_ne (by omega), mI_sI_ne (by omega), mI_sI_ne (by omega)]
      refine a4 l t q ?_
      by_cases d : l = j
      · subst d; omega
      · rw [← szne l d]; exact r
  · rw [mI_sI_ne (by omega), mI_sI_ne (by omega), mI_sI_ne (by omega), mI_sI_ne (by omega)]; exact a5 l q
end
