/-! schema, view in the reference: the fields are taken -/
def tkF (b a j : Nat) : Prop := (139 ≤ a ∧ a ≤ 145 ∧ b ≤ j ∧ j < b + 16) ∨ (a = 146 ∧ 4 * b ≤ j ∧ j < 4 * b + 64)
section
variable {M M' : Mem} {S T : Sc} {vw : Bool}
theorem X12_take171 {k31 : Nat → Int32 → Int32 → Int32 → Mem → Option (Unit × Mem)} {b k : Nat} (hb : b ≤ 16) (hk : k < 16) (v1 : Int32) : ∀ (q i m : Nat) (M1 : Mem), i + q = 4 → q < m → RLay M1 → Chg (fun a j => a = 146 ∧ 4 * (b + k) ≤ j ∧ j < 4 * (b + k) + 4) M M1 → (∀ p, p < i → mI M1 146 (4 * (b + k) + p) = mI M 146 (4 * (32 + k) + p)) → ∃ M2, f_X12_takeFields_171 k31 m 134 v1 (i32 b) (i32 k) (i32 i) M1 = k31 134 v1 (i32 b) (i32 ((k + 1 : Nat) : Int)) M2 ∧ Chg (fun a j => a = 146 ∧ 4 * (b + k) ≤ j ∧ j < 4 * (b + k) + 4) M M2 ∧ ∀ p, p < 4 → mI M2 146 (4 * (b + k) + p) = mI M 146 (4 * (32 + k) + p) := by
  intro q
  induction q with
  | zero =>
    intro i m M1 hi hm hL g h
    obtain ⟨m, rfl⟩ : ∃ q, m = q + 1 := ⟨m - 1, by omega⟩
    refine ⟨M1, ?_, g, fun p hp => h p (by omega)⟩
    unfold f_X12_takeFields_171
    rw [if_pos (by simp (disch := omega) only [↓reduceIte, add_i0, cast_add1, cast_sub1, toNat120, i32_lit, i32_neg, i32_add, i32_sub, i32_mul, i32_nat, i32_le, i32_lt, i32_eq, inB_i, Int.toNat_natCast, mI_sI_eq, mI_sI_ne, mR_sR_eq, mR_sR_ne, mI_sR, mR_sI, mK_sI, mN_sI, mn_sI, mJ_sI, mK_sR, mN_sR, mn_sR, mJ_sR, mI_wI, mR_wI, mK_wI, mN_wI, mn_wI, mJ_wI, ↓bnd_of, ↓bndX_r, ↓bndX_l, ↓ap_nr, bnd_of, bndX_r, bndX_l, if_true, if_false, ite_true, ite_false, not_true_eq_false, not_false_eq_true, Nat.reduceAdd, Nat.reduceMul, Nat.reduceEqDiff, Int.reduceToNat, Int.reduceNeg, Ilt_t, Ilt_f, Ile_t, Ile_f, Ieq_t, Ieq_f, Nlt_t, Nlt_f, Nle_t, Nle_f, Neq_t, Neq_f, or_true, true_or, or_false, false_or, and_true, true_and, and_false, false_and, ne_eq, or_self, and_self, decide_true, decide_false, Bool.false_eq_true]), k_add1]
  | succ q ih =>
    intro i m M1 hi hm hL g h
    obtain ⟨m, rfl⟩ : ∃ q, m = q + 1 := ⟨m - 1, by omega⟩
    have r22 : mR M1 134 22 = 146 := by simp only [hL.o]
    have k146 : mK M1 146 = 21 := by simp only [hL.o]
    have n146 : mN M1 146 = 192 := by simp only [hL.o]
    have lt : ¬ ((4 : Int32) ≤ i32 (i : Int)) := by simp (disch := omega) only [↓reduceIte, add_i0, cast_add1, cast_sub1, toNat120, i32_lit, i32_neg, i32_add, i32_sub, i32_mul, i32_nat, i32_le, i32_lt, i32_eq, inB_i, Int.toNat_natCast, mI_sI_eq, mI_sI_ne, mR_sR_eq, mR_sR_ne, mI_sR, mR_sI, mK_sI, mN_sI, mn_sI, mJ_sI, mK_sR, mN_sR, mn_sR, mJ_sR, mI_wI, mR_wI, mK_wI, mN_wI, mn_wI, mJ_wI, ↓bnd_of, ↓bndX_r, ↓bndX_l, ↓ap_nr, bnd_of, bndX_r, bndX_l, if_true, if_false, ite_true, ite_false, not_true_eq_false, not_false_eq_true, Nat.reduceAdd, Nat.reduceMul, Nat.reduceEqDiff, Int.reduceToNat, Int.reduceNeg, Ilt_t, Ilt_f, Ile_t, Ile_f, Ieq_t, Ieq_f, Nlt_t, Nlt_f, Nle_t, Nle_f, Neq_t, Neq_f, or_true, true_or, or_false, false_or, and_true, true_and, and_false, false_and, ne_eq, or_self, and_self, decide_true, decide_false, Bool.false_eq_true]
    have e1 : (4 : Int32) * ((32 : Int32) + i32 (k : Int)) + i32 (i : Int) = i32 ((4 * (32 + k) + i : Nat) : Int) := by
      rw [show (4 : Int32) = i32 4 from rfl, show (32 : Int32) = i32 32 from rfl, i32_add, i32_mul, i32_add]
      rfl
    have e2 : (4 : Int32) * (i32 (b : Int) + i32 (k : Int)) + i32 (i : Int) = i32 ((4 * (b + k) + i : Nat) : Int) := by
      rw [show (4 : Int32) = i32 4 from rfl, i32_add, i32_mul, i32_add]
      rfl
    have in1 : inB (i32 ((4 * (32 + k) + i : Nat) : Int)) 192 = true := by simp (disch := omega) only [↓reduceIte, add_i0, cast_add1, cast_sub1, toNat120, i32_lit, i32_neg, i32_add, i32_sub, i32_mul, i32_nat, i32_le, i32_lt, i32_eq, inB_i, Int.toNat_natCast, mI_sI_eq, mI_sI_ne, mR_sR_eq, mR_sR_ne, mI_sR, mR_sI, mK_sI, mN_sI, mn_sI, mJ_sI, mK_sR, mN_sR, mn_sR, mJ_sR, mI_wI, mR_wI, mK_wI, mN_wI, mn_wI, mJ_wI, ↓bnd_of, ↓bndX_r, ↓bndX_l, ↓ap_nr, bnd_of, bndX_r, bndX_l, if_true, if_false, ite_true, ite_false, not_true_eq_false, not_false_eq_true, Nat.reduceAdd, Nat.reduceMul, Nat.reduceEqDiff, Int.reduceToNat, Int.reduceNeg, Ilt_t, Ilt_f, Ile_t, Ile_f, Ieq_t, Ieq_f, Nlt_t, Nlt_f, Nle_t, Nle_f, Neq_t, Neq_f, or_true, true_or, or_false, false_or, and_true, true_and, and_false, false_and, ne_eq, or_self, and_self, decide_true, decide_false, Bool.false_eq_true]
    have in2 : inB (i32 ((4 * (b + k) + i : Nat) : Int)) 192 = true := by simp (disch := omega) only [↓reduceIte, add_i0, cast_add1, cast_sub1, toNat120, i32_lit, i32_neg, i32_add, i32_sub, i32_mul, i32_nat, i32_le, i32_lt, i32_eq, inB_i, Int.toNat_natCast, mI_sI_eq, mI_sI_ne, mR_sR_eq, mR_sR_ne, mI_sR, mR_sI, mK_sI, mN_sI, mn_sI, mJ_sI, mK_sR, mN_sR, mn_sR, mJ_sR, mI_wI, mR_wI, mK_wI, mN_wI, mn_wI, mJ_wI, ↓bnd_of, ↓bndX_r, ↓bndX_l, ↓ap_nr, bnd_of, bndX_r, bndX_l, if_true, if_false, ite_true, ite_false, not_true_eq_false, not_false_eq_true, Nat.reduceAdd, Nat.reduceMul, Nat.reduceEqDiff, Int.reduceToNat, Int.reduceNeg, Ilt_t, Ilt_f, Ile_t, Ile_f, Ieq_t, Ieq_f, Nlt_t, Nlt_f, Nle_t, Nle_f, Neq_t, Neq_f, or_true, true_or, or_false, false_or, and_true, true_and, and_false, false_and, ne_eq, or_self, and_self, decide_true, decide_false, Bool.false_eq_true]
    have ev : mI M1 146 (4 * (32 + k) + i) = mI M 146 (4 * (32 + k) + i) := g.i (by omega)
    have g2 : Chg (fun a j => a = 146 ∧ 4 * (b + k) ≤ j ∧ j < 4 * (b + k) + 4) M1 (sI M1 146 (4 * (b + k) + i) (mI M 146 (4 * (32 + k) + i))) := (Chg.rf _ M1).sI (by omega)
    obtain ⟨M3, e3, g3, w3⟩ := ih (i + 1) m (sI M1 146 (4 * (b + k) + i) (mI M 146 (4 * (32 + k) + i))) (by omega) (by omega) (hL.all g2) (g.tr g2) (fun p hp => by
      by_cases c : p = i
      · subst c; exact mI_sI_eq
      · rw [mI_sI_ne (by omega)]; exact h p (by omega))
    refine ⟨M3, ?_, g3, w3⟩
    rw [← e3]
    conv => lhs; unfold f_X12_takeFields_171
    rw [if_neg lt, if_pos hL.k, r22, if_pos k146, e1, e2, n146, if_pos in1, if_pos in2, nat_i (k := 4 * (32 + k) + i) (by omega), nat_i (k := 4 * (b + k) + i) (by omega), ev, ap_of, k_add1]
/-- one field is copied -/
theorem X12_take1 {b k : Nat} {v1 : Int} (hv : (v1 = 0 ∧ b = 0) ∨ (v1 = 1 ∧ b = 16)) (hk : k < T.nf) (hT : T.nf ≤ 16) (m : Nat) (hL : RLay M) (h2 : mI M 147 2 = i32 T.nf) : ∃ M2, f_X12_takeFields_31 (m + 1) 134 (i32 v1) (i32 b) (i32 k) M = f_X12_takeFields_31 m 134 (i32 v1) (i32 b) (i32 ((k + 1 : Nat) : Int)) M2 ∧ Chg (fun a j => (139 ≤ a ∧ a ≤ 145 ∧ j = b + k) ∨ (a = 146 ∧ 4 * (b + k) ≤ j ∧ j < 4 * (b + k) + 4)) M M2 ∧ (∀ a, 139 ≤ a → a ≤ 144 → mI M2 a (b + k) = mI M a (32 + k)) ∧ mI M2 145 (b + k) = (if v1 = 0 then i32 (k : Int) else mI M 145 (32 + k)) ∧ ∀ p, p < 4 → mI M2 146 (4 * (b + k) + p) = mI M 146 (4 * (32 + k) + p) := by
  have t2 : (2 : Int32).toNatClampNeg = 2 := by decide
  have r23 : mR M 134 23 = 147 := by simp only [hL.o]
  have k147 : mK M 147 = 21 := by simp only [hL.o]
  have n147 : mN M 147 = 3 := by simp only [hL.o]
  have r15 : mR M 134 15 = 139 := by simp only [hL.o]
  have k139 : mK M 139 = 21 := by simp only [hL.o]
  have n139 : mN M 139 = 48 := by simp only [hL.o]
  have r16 : mR M 134 16 = 140 := by simp only [hL.o]
  have k140 : mK M 140 = 21 := by simp only [hL.o]
  have n140 : mN M 140 = 48 := by simp only [hL.o]
  have r17 : mR M 134 17 = 141 := by simp only [hL.o]
  have k141 : mK M 141 = 21 := by simp only [hL.o]
  have n141 : mN M 141 = 48 := by simp only [hL.o]
  have r18 : mR M 134 18 = 142 := by simp only [hL.o]
  have k142 : mK M 142 = 21 := by simp only [hL.o]
  have n142 : mN M 142 = 48 := by simp only [hL.o]
  have r19 : mR M 134 19 = 143 := by simp only [hL.o]
  have k143 : mK M 143 = 21 := by simp only [hL.o]
  have n143 : mN M 143 = 48 := by simp only [hL.o]
  have r20 : mR M 134 20 = 144 := by simp only [hL.o]
  have k144 : mK M 144 = 21 := by simp only [hL.o]
  have n144 : mN M 144 = 48 := by simp only [hL.o]
  have r21 : mR M 134 21 = 145 := by simp only [hL.o]
  have k145 : mK M 145 = 21 := by simp only [hL.o]
  have n145 : mN M 145 = 48 := by simp only [hL.o]
  have lt : ¬ (i32 (T.nf : Int) ≤ i32 (k : Int)) := by simp (disch := omega) only [↓reduceIte, add_i0, cast_add1, cast_sub1, toNat120, i32_lit, i32_neg, i32_add, i32_sub, i32_mul, i32_nat, i32_le, i32_lt, i32_eq, inB_i, Int.toNat_natCast, mI_sI_eq, mI_sI_ne, mR_sR_eq, mR_sR_ne, mI_sR, mR_sI, mK_sI, mN_sI, mn_sI, mJ_sI, mK_sR, mN_sR, mn_sR, mJ_sR, mI_wI, mR_wI, mK_wI, mN_wI, mn_wI, mJ_wI, ↓bnd_of, ↓bndX_r, ↓bndX_l, ↓ap_nr, bnd_of, bndX_r, bndX_l, if_true, if_false, ite_true, ite_false, not_true_eq_false, not_false_eq_true, Nat.reduceAdd, Nat.reduceMul, Nat.reduceEqDiff, Int.reduceToNat, Int.reduceNeg, Ilt_t, Ilt_f, Ile_t, Ile_f, Ieq_t, Ieq_f, Nlt_t, Nlt_f, Nle_t, Nle_f, Neq_t, Neq_f, or_true, true_or, or_false, false_or, and_true, true_and, and_false, false_and, ne_eq, or_self, and_self, decide_true, decide_false, Bool.false_eq_true]
  have e1 : (32 : Int32) + i32 (k : Int) = i32 ((32 + k : Nat) : Int) := by
    rw [show (32 : Int32) = i32 32 from rfl, i32_add]
    rfl
  have e2 : i32 (b : Int) + i32 (k : Int) = i32 ((b + k : Nat) : Int) := by
    rw [i32_add]
    rfl
  have in1 : inB (i32 ((32 + k : Nat) : Int)) 48 = true := by simp (disch := omega) only [↓reduceIte, add_i0, cast_add1, cast_sub1, toNat120, i32_lit, i32_neg, i32_add, i32_sub, i32_mul, i32_nat, i32_le, i32_lt, i32_eq, inB_i, Int.toNat_natCast, mI_sI_eq, mI_sI_ne, mR_sR_eq, mR_sR_ne, mI_sR, mR_sI, mK_sI, mN_sI, mn_sI, mJ_sI, mK_sR, mN_sR, mn_sR, mJ_sR, mI_wI, mR_wI, mK_wI, mN_wI, mn_wI, mJ_wI, ↓bnd_of, ↓bndX_r, ↓bndX_l, ↓ap_nr, bnd_of, bndX_r, bndX_l, if_true, if_false, ite_true, ite_false, not_true_eq_false, not_false_eq_true, Nat.reduceAdd, Nat.reduceMul, Nat.reduceEqDiff, Int.reduceToNat, Int.reduceNeg, Ilt_t, Ilt_f, Ile_t, Ile_f, Ieq_t, Ieq_f, Nlt_t, Nlt_f, Nle_t, Nle_f, Neq_t, Neq_f, or_true, true_or, or_false, false_or, and_true, true_and, and_false, false_and, ne_eq, or_self, and_self, decide_true, decide_false, Bool.false_eq_true]
  have in2 : inB (i32 ((b + k : Nat) : Int)) 48 = true := by simp (disch := omega) only [↓reduceIte, add_i0, cast_add1, cast_sub1, toNat120, i32_lit, i32_neg, i32_add, i32_sub, i32_mul, i32_nat, i32_le, i32_lt, i32_eq, inB_i, Int.toNat_natCast, mI_sI_eq, mI_sI_ne, mR_sR_eq, mR_sR_ne, mI_sR, mR_sI, mK_sI, mN_sI, mn_sI, mJ_sI, mK_sR, mN_sR, mn_sR, mJ_sR, mI_wI, mR_wI, mK_wI, mN_wI, mn_wI, mJ_wI, ↓bnd_of, ↓bndX_r, ↓bndX_l, ↓ap_nr, bnd_of, bndX_r, bndX_l, if_true, if_false, ite_true, ite_false, not_true_eq_false, not_false_eq_true, Nat.reduceAdd, Nat.reduceMul, Nat.reduceEqDiff, Int.reduceToNat, Int.reduceNeg, Ilt_t, Ilt_f, Ile_t, Ile_f, Ieq_t, Ieq_f, Nlt_t, Nlt_f, Nle_t, Nle_f, Neq_t, Neq_f, or_true, true_or, or_false, false_or, and_true, true_and, and_false, false_and, ne_eq, or_self, and_self, decide_true, decide_false, Bool.false_eq_true]
  have na1 := nat_i (k := 32 + k) (by omega)
  have na2 := nat_i (k := b + k) (by omega)
  -- the six rows
  obtain ⟨M6, em⟩ : ∃ M6, sI (sI (sI (sI (sI (sI M 139 (b + k) (mI M 139 (32 + k))) 140 (b + k) (mI M 140 (32 + k))) 141 (b + k) (mI M 141 (32 + k))) 142 (b + k) (mI M 142 (32 + k))) 143 (b + k) (mI M 143 (32 + k))) 144 (b + k) (mI M 144 (32 + k)) = M6 := ⟨_, rfl⟩
  have g6 : Chg (fun a j => 139 ≤ a ∧ a ≤ 144 ∧ j = b + k) M M6 := by
    rw [← em]
    exact ((((((Chg.rf _ M).sI (by omega)).sI (by omega)).sI (by omega)).sI (by omega)).sI (by omega)).sI (by omega)
  have hL6 := hL.all g6
  have r216 : mR M6 134 21 = 145 := by simp only [hL6.o]
  have k1456 : mK M6 145 = 21 := by simp only [hL6.o]
  have n1456 : mN M6 145 = 48 := by simp only [hL6.o]
  have x1 : mI (sI M 139 (b + k) (mI M 139 (32 + k))) 140 (32 + k) = mI M 140 (32 + k) := mI_sI_ne (by omega)
  have x2 : mI (sI (sI M 139 (b + k) (mI M 139 (32 + k))) 140 (b + k) (mI M 140 (32 + k))) 141 (32 + k) = mI M 141 (32 + k) := by rw [mI_sI_ne (by omega), mI_sI_ne (by omega)]
  have x3 : mI (sI (sI (sI M 139 (b + k) (mI M 139 (32 + k))) 140 (b + k) (mI M 140 (32 + k))) 141 (b + k) (mI M 141 (32 + k))) 142 (32 + k) = mI M 142 (32 + k) := by rw [mI_sI_ne (by omega), mI_sI_ne (by omega), mI_sI_ne (by omega)]
  have x4 : mI (sI (sI (sI (sI M 139 (b + k) (mI M 139 (32 + k))) 140 (b + k) (mI M 140 (32 + k))) 141 (b + k) (mI M 141 (32 + k))) 142 (b + k) (mI M 142 (32 + k))) 143 (32 + k) = mI M 143 (32 + k) := by rw [mI_sI_ne (by omega), mI_sI_ne (by omega), mI_sI_ne (by omega), mI_sI_ne (by omega)]
  have x5 : mI (sI (sI (sI (sI (sI M 139 (b + k) (mI M 139 (32 + k))) 140 (b + k) (mI M 140 (32 + k))) 141 (b + k) (mI M 141 (32 + k))) 142 (b + k) (mI M 142 (32 + k))) 143 (b + k) (mI M 143 (32 + k))) 144 (32 + k) = mI M 144 (32 + k) := by rw [mI_sI_ne (by omega), mI_sI_ne (by omega), mI_sI_ne (by omega), mI_sI_ne (by omega), mI_sI_ne (by omega)]
  have st : f_X12_takeFields_31 (m + 1) 134 (i32 v1) (i32 b) (i32 k) M = (if i32 v1 = 0 then f_X12_takeFields_167 (f_X12_takeFields_31 m) 134 (i32 v1) (i32 b) (i32 k) 145 (i32 ((b + k : Nat) : Int)) (i32 k) M6 else f_X12_takeFields_167 (f_X12_takeFields_31 m) 134 (i32 v1) (i32 b) (i32 k) 145 (i32 ((b + k : Nat) : Int)) (mI M6 145 (32 + k)) M6) := by
    conv => lhs; unfold f_X12_takeFields_31
    rw [if_pos hL.k, r23, if_pos k147, n147, if_pos (by decide), t2, h2, if_neg lt, r15, if_pos k139, e1, e2, n139, if_pos in1, if_pos in2, na1, na2, ap_of, if_pos (by exact hL.k), mR_sI, r16, if_pos (by exact k140), mN_sI, n140, if_pos in1, if_pos in2, x1, ap_of, if_pos (by exact hL.k), mR_sI, mR_sI, r17, if_pos (by exact k141), mN_sI, mN_sI, n141, if_pos in1, if_pos in2, x2, ap_of, if_pos (by exact hL.k), mR_sI, mR_sI, mR_sI, r18, if_pos (by exact k142), mN_sI, mN_sI, mN_sI, n142, if_pos in1, if_pos in2, x3, ap_of, if_pos (by exact hL.k), mR_sI, mR_sI, mR_sI, mR_sI, r19, if_pos (by exact k143), mN_sI, mN_sI, mN_sI, mN_sI, n143, if_pos in1, if_pos in2, x4, ap_of, if_pos (by exact hL.k), mR_sI, mR_sI, mR_sI, mR_sI, mR_sI, r20, if_pos (by exact k144), mN_sI, mN_sI, mN_sI, mN_sI, mN_sI, n144, if_pos in1, if_pos in2, x5, ap_of, em, if_pos hL6.k, r216, if_pos k1456, n1456, if_pos in1]
  obtain ⟨w, hw, est⟩ : ∃ w : Int32, w = (if v1 = 0 then i32 (k : Int) else mI M 145 (32 + k)) ∧ f_X12_takeFields_31 (m + 1) 134 (i32 v1) (i32 b) (i32 k) M = f_X12_takeFields_167 (f_X12_takeFields_31 m) 134 (i32 v1) (i32 b) (i32 k) 145 (i32 ((b + k : Nat) : Int)) w M6 := by
    rw [st]
    rcases hv with ⟨h, -⟩ | ⟨h, -⟩
    · exact ⟨_, rfl, by rw [h, if_pos (by rfl), if_pos rfl]⟩
    · have n1 : ¬ (i32 1 = i32 0) := i32_ne (by omega) (by omega) (by omega) (by omega) (by omega)
      refine ⟨_, rfl, ?_⟩
      rw [h, if_neg (by exact n1), if_neg (by omega), g6.i (by omega)]
  obtain ⟨M7, em7⟩ : ∃ M7, sI M6 145 (b + k) w = M7 := ⟨_, rfl⟩
  have g7 : Chg (fun a j => a = 145 ∧ j = b + k) M6 M7 := by rw [← em7]; exact (Chg.rf _ M6).sI ⟨rfl, rfl⟩
  have hL7 := hL6.all g7
  obtain ⟨M8, e8, g8, w8⟩ := X12_take171 (M := M7) (k31 := f_X12_takeFields_31 m) (b := b) (k := k) (by omega) (by omega) (i32 v1) 4 0 FUEL M7 (by omega) (by unfold FUEL; omega) hL7 (Chg.rf _ M7) (fun p hp => by omega)
  have e8 : f_X12_takeFields_171 (f_X12_takeFields_31 m) FUEL 134 (i32 v1) (i32 b) (i32 k) (0 : Int32) M7 = _ := e8
  refine ⟨M8, ?_, (g6.mono (fun a j h => by omega)).tr ((g7.mono (fun a j h => by omega)).tr (g8.mono (fun a j h => by omega))), fun a h1 h2 => ?_, ?_, fun p hp => ?_⟩
  · rw [est]
    unfold f_X12_takeFields_167
    rw [if_pos k1456, n1456, if_pos in2, na2, ap_of, em7, e8]
  · rw [g8.i (by omega), g7.i (by omega), ← em]
    have : a = 139 ∨ a = 140 ∨ a = 141 ∨ a = 142 ∨ a = 143 ∨ a = 144 := by omega
    rcases this with h | h | h | h | h | h <;> subst h
    · rw [mI_sI_ne (by omega), mI_sI_ne (by omega), mI_sI_ne (by omega), mI_sI_ne (by omega), mI_sI_ne (by omega), mI_sI_eq]
    · rw [mI_sI_ne (by omega), mI_sI_ne (by omega), mI_sI_ne (by omega), mI_sI_ne (by omega), mI_sI_eq]
    · rw [mI_sI_ne (by omega), mI_sI_ne (by omega), mI_sI_ne (by omega), mI_sI_eq]
    · rw [mI_sI_ne (by omega), mI_sI_ne (by omega), mI_sI_eq]
    · rw [mI_sI_ne (by omega), mI_sI_eq]
    · rw [mI_sI_eq]
  · rw [g8.i (by omega), ← em7, mI_sI_eq, hw]
  · rw [w8 p hp, g7.i (by omega), g6.i (by omega)]
theorem X12_take31 {b : Nat} {v1 : Int} (hv : (v1 = 0 ∧ b = 0) ∨ (v1 = 1 ∧ b = 16)) (hT : T.nf ≤ 16) (h2 : mI M 147 2 = i32 T.nf) : ∀ (q k m : Nat) (M1 : Mem), k + q = T.nf → q < m → RLay M1 → Chg (tkF b) M M1 → (∀ p, p < k → (∀ a, 139 ≤ a → a ≤ 144 → mI M1 a (b + p) = mI M a (32 + p)) ∧ mI M1 145 (b + p) = (if v1 = 0 then i32 (p : Int) else mI M 145 (32 + p)) ∧ ∀ i, i < 4 → mI M1 146 (4 * (b + p) + i) = mI M 146 (4 * (32 + p) + i)) → ∃ M2, f_X12_takeFields_31 m 134 (i32 v1) (i32 b) (i32 k) M1 = some ((), M2) ∧ Chg (tkF b) M M2 ∧ ∀ p, p < T.nf → (∀ a, 139 ≤ a → a ≤ 144 → mI M2 a (b + p) = mI M a (32 + p)) ∧ mI M2 145 (b + p) = (if v1 = 0 then i32 (p : Int) else mI M 145 (32 + p)) ∧ ∀ i, i < 4 → mI M2 146 (4 * (b + p) + i) = mI M 146 (4 * (32 + p) + i) := by
  have hb : b ≤ 16 := by omega
  intro q
  induction q with
  | zero =>
    intro k m M1 hk hm hL g h
    obtain ⟨m, rfl⟩ : ∃ q, m = q + 1 := ⟨m - 1, by omega⟩
    have t2 : (2 : Int32).toNatClampNeg = 2 := by decide
    have r23 : mR M1 134 23 = 147 := by simp only [hL.o]
    have k147 : mK M1 147 = 21 := by simp only [hL.o]
    have n147 : mN M1 147 = 3 := by simp only [hL.o]
    have e2 : mI M1 147 2 = i32 T.nf := by rw [g.i (by unfold tkF; omega)]; exact h2
    refine ⟨M1, ?_, g, fun p hp => h p (by omega)⟩
    unfold f_X12_takeFields_31
    rw [if_pos hL.k, r23, if_pos k147, n147, if_pos (by decide), t2, e2, if_pos (by simp (disch := omega) only [↓reduceIte, add_i0, cast_add1, cast_sub1, toNat120, i32_lit, i32_neg, i32_add, i32_sub, i32_mul, i32_nat, i32_le, i32_lt, i32_eq, inB_i, Int.toNat_natCast, mI_sI_eq, mI_sI_ne, mR_sR_eq, mR_sR_ne, mI_sR, mR_sI, mK_sI, mN_sI, mn_sI, mJ_sI, mK_sR, mN_sR, mn_sR, mJ_sR, mI_wI, mR_wI, mK_wI, mN_wI, mn_wI, mJ_wI, ↓bnd_of, ↓bndX_r, ↓bndX_l, ↓ap_nr, bnd_of, bndX_r, bndX_l, if_true, if_false, ite_true, ite_false, not_true_eq_false, not_false_eq_true, Nat.reduceAdd, Nat.reduceMul, Nat.reduceEqDiff, Int.reduceToNat, Int.reduceNeg, Ilt_t, Ilt_f, Ile_t, Ile_f, Ieq_t, Ieq_f, Nlt_t, Nlt_f, Nle_t, Nle_f, Neq_t, Neq_f, or_true, true_or, or_false, false_or, and_true, true_and, and_false, false_and, ne_eq, or_self, and_self, decide_true, decide_false, Bool.false_eq_true])]
  | succ q ih =>
    intro k m M1 hk hm hL g h
    obtain ⟨m, rfl⟩ : ∃ q, m = q + 1 := ⟨m - 1, by omega⟩
    have e2 : mI M1 147 2 = i32 T.nf := by rw [g.i (by unfold tkF; omega)]; exact h2
    obtain ⟨M2, s2, g2, w1, w2, w3⟩ := X12_take1 (T := T) hv (k := k) (by omega) hT m hL e2
    have gt : Chg (tkF b) M1 M2 := g2.mono (fun a j h => by unfold tkF; omega)
    obtain ⟨M3, e3, g3, w4⟩ := ih (k + 1) m M2 (by omega) (by omega) (hL.all g2) (g.tr gt) (fun p hp => by
      by_cases c : p = k
      · subst c
        refine ⟨fun a h1 h2 => ?_, ?_, fun i hi => ?_⟩
        · rw [w1 a h1 h2, g.i (by unfold tkF; omega)]
        · rw [w2, g.i (a := 145) (j := 32 + p) (by unfold tkF; omega)]
        · rw [w3 i hi, g.i (by unfold tkF; omega)]
      · obtain ⟨y1, y2, y3⟩ := h p (by omega)
        refine ⟨fun a h1 h2 => ?_, ?_, fun i hi => ?_⟩
        · rw [g2.i (by omega)]; exact y1 a h1 h2
        · rw [g2.i (by omega)]; exact y2
        · rw [g2.i (by omega)]; exact y3 i hi)
    exact ⟨M3, by rw [s2, e3], g3, w4⟩
/-- the fields of the trial are those of the block -/
theorem X12_takeFields {b : Nat} {v1 : Nat} (hv : (v1 = 0 ∧ b = 0) ∨ (v1 = 1 ∧ b = 16)) (hT : T.ok) (hL : RLay M) (tr : RTr M T vw) : ∃ M', f_X12_takeFields 134 (i32 v1) M = some ((), M') ∧ Chg (fun a j => tkF b a j ∨ ((a = 147 ∨ a = 148) ∧ j = v1)) M M' ∧ mI M' 147 v1 = i32 T.nf ∧ mI M' 148 v1 = i32 T.nl ∧ (∀ f, f < T.nf → mI M' 139 (b + f) = i32 (T.kd f) ∧ mI M' 140 (b + f) = i32 (T.gr f) ∧ mI M' 141 (b + f) = i32 (T.lf f) ∧ mI M' 142 (b + f) = i32 (T.sd f) ∧ mI M' 143 (b + f) = i32 (T.sr f) ∧ mI M' 144 (b + f) = i32 (T.ln f) ∧ mI M' 145 (b + f) = (if v1 = 0 then i32 (f : Int) else i32 (if vw = true then T.tw f else -1)) ∧ ∀ i : Nat, (i : Int) < T.ln f → mI M' 146 (4 * (b + f) + i) = i32 (T.nm (4 * f + i))) := by
  have hnT := hT.1
  have hln := hT.2.2.2.2.2.2.2.1
  obtain ⟨c0, c1, c2, c3, c4, c5, c6, c7, c8, c9⟩ := tr
  have t2 : (2 : Int32).toNatClampNeg = 2 := by decide
  have r23 : mR M 134 23 = 147 := by simp only [hL.o]
  have k147 : mK M 147 = 21 := by simp only [hL.o]
  have n147 : mN M 147 = 3 := by simp only [hL.o]
  have r24 : mR M 134 24 = 148 := by simp only [hL.o]
  have k148 : mK M 148 = 21 := by simp only [hL.o]
  have n148 : mN M 148 = 3 := by simp only [hL.o]
  have inv : inB (i32 (v1 : Int)) 3 = true := by simp (disch := omega) only [↓reduceIte, add_i0, cast_add1, cast_sub1, toNat120, i32_lit, i32_neg, i32_add, i32_sub, i32_mul, i32_nat, i32_le, i32_lt, i32_eq, inB_i, Int.toNat_natCast, mI_sI_eq, mI_sI_ne, mR_sR_eq, mR_sR_ne, mI_sR, mR_sI, mK_sI, mN_sI, mn_sI, mJ_sI, mK_sR, mN_sR, mn_sR, mJ_sR, mI_wI, mR_wI, mK_wI, mN_wI, mn_wI, mJ_wI, ↓bnd_of, ↓bndX_r, ↓bndX_l, ↓ap_nr, bnd_of, bndX_r, bndX_l, if_true, if_false, ite_true, ite_false, not_true_eq_false, not_false_eq_true, Nat.reduceAdd, Nat.reduceMul, Nat.reduceEqDiff, Int.reduceToNat, Int.reduceNeg, Ilt_t, Ilt_f, Ile_t, Ile_f, Ieq_t, Ieq_f, Nlt_t, Nlt_f, Nle_t, Nle_f, Neq_t, Neq_f, or_true, true_or, or_false, false_or, and_true, true_and, and_false, false_and, ne_eq, or_self, and_self, decide_true, decide_false, Bool.false_eq_true]
  have nv := nat_i (k := v1) (by omega)
  have eb : i32 (v1 : Int) * (16 : Int32) = i32 (b : Int) := by
    rw [show (16 : Int32) = i32 16 from rfl, i32_mul]
    congr 1
    omega
  obtain ⟨M1, em⟩ : ∃ M1, sI (sI M 147 v1 (i32 (T.nf : Int))) 148 v1 (i32 (T.nl : Int)) = M1 := ⟨_, rfl⟩
  have g1 : Chg (fun a j => (a = 147 ∨ a = 148) ∧ j = v1) M M1 := by
    rw [← em]
    exact ((Chg.rf _ M).sI ⟨Or.inl rfl, rfl⟩).sI ⟨Or.inr rfl, rfl⟩
  have hL1 := hL.all g1
  have x1 : mI (sI M 147 v1 (i32 (T.nf : Int))) 148 2 = i32 T.nl := by rw [mI_sI_ne (by omega)]; exact c1
  obtain ⟨M2, e2, g2, w2⟩ := X12_take31 (M := M1) (T := T) (b := b) (v1 := (v1 : Int)) (by omega) hnT (by rw [g1.i (by omega)]; exact c0) T.nf 0 FUEL M1 (by omega) (by unfold FUEL; omega) hL1 (Chg.rf _ M1) (fun p hp => by omega)
  have e2 : f_X12_takeFields_31 FUEL 134 (i32 (v1 : Int)) (i32 (b : Int)) (0 : Int32) M1 = _ := e2
  refine ⟨M2, ?_, (g1.mono (fun a j h => Or.inr h)).tr (g2.mono (fun a j h => Or.inl h)), ?_, ?_, fun f hf => ?_⟩
  · unfold f_X12_takeFields
    rw [if_pos hL.k, r23, if_pos k147, n147, if_pos (by decide), if_pos inv, nv, t2, c0, ap_of, if_pos (by exact hL.k), mR_sI, r24, if_pos (by exact k148), mN_sI, n148, if_pos (by decide), if_pos inv, x1, ap_of, em, eb, e2]
  · rw [g2.i (by unfold tkF; omega), ← em, mI_sI_ne (by omega), mI_sI_eq]
  · rw [g2.i (by unfold tkF; omega), ← em, mI_sI_eq]
  · obtain ⟨y1, y2, y3⟩ := w2 f hf
    have q : ∀ a j, a ≤ 146 → mI M1 a j = mI M a j := fun a j h => g1.i (by omega)
    refine ⟨?_, ?_, ?_, ?_, ?_, ?_, ?_, fun i hi => ?_⟩
    · rw [y1 139 (by omega) (by omega), q _ _ (by omega)]; exact c2 f hf
    · rw [y1 140 (by omega) (by omega), q _ _ (by omega)]; exact c3 f hf
    · rw [y1 141 (by omega) (by omega), q _ _ (by omega)]; exact c4 f hf
    · rw [y1 142 (by omega) (by omega), q _ _ (by omega)]; exact c5 f hf
    · rw [y1 143 (by omega) (by omega), q _ _ (by omega)]; exact c6 f hf
    · rw [y1 144 (by omega) (by omega), q _ _ (by omega)]; exact c7 f hf
    · rw [y2, q _ _ (by omega), c9 f hf]
      by_cases c : v1 = 0
      · rw [if_pos c, if_pos (by omega)]
      · rw [if_neg c, if_neg (by omega)]
    · have := hln f
      rw [y3 i (by omega), q _ _ (by omega)]
      exact c8 f i hf hi
end
