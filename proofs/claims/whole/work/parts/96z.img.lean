/-! image, restore: a row is copied in the reference -/
section
variable {M : Mem}
theorem X12_copyTo2 {d s N : Nat} (hne : d ≠ s) (hN : N ≤ 38760) : ∀ (k j m : Nat) (M1 : Mem), j + k = N → k < m → mK M1 d = 21 → mK M1 s = 21 → mN M1 d = N → mN M1 s = N → Chg (fun a _ => a = d) M M1 → (∀ i, i < j → mI M1 d i = mI M s i) → ∃ M2, f_X12_copyTo_2 m d s (i32 j) M1 = some ((), M2) ∧ Chg (fun a _ => a = d) M M2 ∧ ∀ i, i < N → mI M2 d i = mI M s i := by
  intro k
  induction k with
  | zero =>
    intro j m M1 hj hm kd ks nd ns g h
    obtain ⟨m, rfl⟩ : ∃ q, m = q + 1 := ⟨m - 1, by omega⟩
    refine ⟨M1, ?_, g, fun i hi => h i (by omega)⟩
    unfold f_X12_copyTo_2
    rw [if_pos kd, nd, i32_ofNat, if_pos (by simp (disch := omega) only [↓reduceIte, add_i0, cast_add1, cast_sub1, toNat120, i32_lit, i32_neg, i32_add, i32_sub, i32_mul, i32_nat, i32_le, i32_lt, i32_eq, inB_i, Int.toNat_natCast, mI_sI_eq, mI_sI_ne, mR_sR_eq, mR_sR_ne, mI_sR, mR_sI, mK_sI, mN_sI, mn_sI, mJ_sI, mK_sR, mN_sR, mn_sR, mJ_sR, mI_wI, mR_wI, mK_wI, mN_wI, mn_wI, mJ_wI, ↓bnd_of, ↓bndX_r, ↓bndX_l, ↓ap_nr, bnd_of, bndX_r, bndX_l, if_true, if_false, ite_true, ite_false, not_true_eq_false, not_false_eq_true, Nat.reduceAdd, Nat.reduceMul, Nat.reduceEqDiff, Int.reduceToNat, Int.reduceNeg, Ilt_t, Ilt_f, Ile_t, Ile_f, Ieq_t, Ieq_f, Nlt_t, Nlt_f, Nle_t, Nle_f, Neq_t, Neq_f, or_true, true_or, or_false, false_or, and_true, true_and, and_false, false_and, ne_eq, or_self, and_self, decide_true, decide_false, Bool.false_eq_true])]
  | succ k ih =>
    intro j m M1 hj hm kd ks nd ns g h
    obtain ⟨m, rfl⟩ : ∃ q, m = q + 1 := ⟨m - 1, by omega⟩
    have gs : Chg (fun a _ => a = d) M1 (sI M1 d j (mI M1 s j)) := (Chg.rf _ M1).sI rfl
    obtain ⟨M2, e, g2, q⟩ := ih (j + 1) m (sI M1 d j (mI M1 s j)) (by omega) (by omega) kd ks nd ns (g.tr gs) (fun i hi => by
      by_cases c : i = j
      · subst c
        rw [mI_sI_eq, g.i (fun w => hne w.symm)]
      · rw [mI_sI_ne (by omega)]
        exact h i (by omega))
    refine ⟨M2, ?_, g2, q⟩
    rw [← e]
    have nj := nat_i (k := j) (by omega)
    have inj : inB (i32 (j : Int)) N = true := by simp (disch := omega) only [↓reduceIte, add_i0, cast_add1, cast_sub1, toNat120, i32_lit, i32_neg, i32_add, i32_sub, i32_mul, i32_nat, i32_le, i32_lt, i32_eq, inB_i, Int.toNat_natCast, mI_sI_eq, mI_sI_ne, mR_sR_eq, mR_sR_ne, mI_sR, mR_sI, mK_sI, mN_sI, mn_sI, mJ_sI, mK_sR, mN_sR, mn_sR, mJ_sR, mI_wI, mR_wI, mK_wI, mN_wI, mn_wI, mJ_wI, ↓bnd_of, ↓bndX_r, ↓bndX_l, ↓ap_nr, bnd_of, bndX_r, bndX_l, if_true, if_false, ite_true, ite_false, not_true_eq_false, not_false_eq_true, Nat.reduceAdd, Nat.reduceMul, Nat.reduceEqDiff, Int.reduceToNat, Int.reduceNeg, Ilt_t, Ilt_f, Ile_t, Ile_f, Ieq_t, Ieq_f, Nlt_t, Nlt_f, Nle_t, Nle_f, Neq_t, Neq_f, or_true, true_or, or_false, false_or, and_true, true_and, and_false, false_and, ne_eq, or_self, and_self, decide_true, decide_false, Bool.false_eq_true]
    have lt : ¬ (i32 (N : Int) ≤ i32 (j : Int)) := by simp (disch := omega) only [↓reduceIte, add_i0, cast_add1, cast_sub1, toNat120, i32_lit, i32_neg, i32_add, i32_sub, i32_mul, i32_nat, i32_le, i32_lt, i32_eq, inB_i, Int.toNat_natCast, mI_sI_eq, mI_sI_ne, mR_sR_eq, mR_sR_ne, mI_sR, mR_sI, mK_sI, mN_sI, mn_sI, mJ_sI, mK_sR, mN_sR, mn_sR, mJ_sR, mI_wI, mR_wI, mK_wI, mN_wI, mn_wI, mJ_wI, ↓bnd_of, ↓bndX_r, ↓bndX_l, ↓ap_nr, bnd_of, bndX_r, bndX_l, if_true, if_false, ite_true, ite_false, not_true_eq_false, not_false_eq_true, Nat.reduceAdd, Nat.reduceMul, Nat.reduceEqDiff, Int.reduceToNat, Int.reduceNeg, Ilt_t, Ilt_f, Ile_t, Ile_f, Ieq_t, Ieq_f, Nlt_t, Nlt_f, Nle_t, Nle_f, Neq_t, Neq_f, or_true, true_or, or_false, false_or, and_true, true_and, and_false, false_and, ne_eq, or_self, and_self, decide_true, decide_false, Bool.false_eq_true]
    conv => lhs; unfold f_X12_copyTo_2
    rw [if_pos kd, nd, i32_ofNat, if_neg lt, if_pos ks, ns, if_pos inj, if_pos inj, nj, ap_of, k_add1]
theorem X12_copyTo {d s N : Nat} (hne : d ≠ s) (hN : N ≤ 38760) (kd : mK M d = 21) (ks : mK M s = 21) (nd : mN M d = N) (ns : mN M s = N) : ∃ M2, f_X12_copyTo d s M = some ((), M2) ∧ Chg (fun a _ => a = d) M M2 ∧ ∀ i, i < N → mI M2 d i = mI M s i := X12_copyTo2 hne hN N 0 FUEL M (by omega) (by unfold FUEL; omega) kd ks nd ns (Chg.rf _ M) (fun i hi => by omega)
end
