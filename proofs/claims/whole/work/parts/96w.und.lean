/-! undo in the class: bringBack whole, the records that were added are cut off -/
section
variable {M : Mem} {B' B A : St} {fu : Nat → Int}
theorem brS_end {nl : Nat} (hp : PreR nl B' B) {l : Nat} (hl : l < 8) : (brS B' B nl 0).sz l = B.sz l := by
  by_cases c : l < nl
  · rw [brS_lt c]
  · have h := (hp.2.1 l hl).2 (by omega)
    by_cases d : l = nl
    · subst d
      rw [brS_eq]
      omega
    · rw [brS_gt (by omega)]
      exact h
theorem brS_start (hp : ∀ l j, l < 8 → j < B'.sz l → B'.rp l j = B.rp l j ∧ B'.df l j = B.df l j ∧ B'.vl l j = B.vl l j) : Eqv B' (brS B' B 0 0) := by
  refine ⟨rfl, fun l hl => ⟨?_, fun j hj => hp l j hl hj⟩⟩
  by_cases c : l = 0
  · subst c
    rw [brS_eq]
    rfl
  · rw [brS_gt (by omega)]
theorem X7_bring {r nl : Nat} (hr : 164 < r) (hnl : nl ≤ 8) (hB : B.ok) (hp : PreR nl B' B) (hL : CLay M) (hc : ColLay M 21) (hC : CC M 21 fu B') (h1 : mI M 18 1 = i32 B'.rc) (hrow : RowOk M r nl B' B) : ∃ M2, f_X7_bringBack 18 r (i32 nl) M = some ((), M2) ∧ Chg bnI M M2 ∧ CC M2 21 fu B ∧ mI M2 18 1 = i32 B.rc := by
  have hB' := hC.1
  have hC0 : CC M 21 fu (brS B' B 0 0) := hC.eqv (brS_start hp.2.2) (brS_ok hB hp hB'.2.2.2.1 (by have := hB'.2.2.2.1 0; omega) hB'.2.2.2.2)
  obtain ⟨M2, e, g, q, w⟩ := bring5 (B' := B') (B := B) (fu := fu) hr hnl hB hB' hp nl 0 FUEL M (by omega) (by unfold FUEL; omega) hL hc hC0 h1 hrow
  refine ⟨M2, ?_, g, ?_, ?_⟩
  · have e0 : f_X7_bringBack 18 r (i32 nl) M = f_X7_bringBack_5 FUEL 18 r (i32 nl) (i32 (rpos (fun l => B.sz l - B'.sz l) 0 : Nat)) (i32 ((0 : Nat) : Int)) M := rfl
    rw [e0]
    exact e
  · obtain ⟨a0, a1, a2, a3, a4, a5, a6⟩ := q
    refine ⟨hB, fun l hl => ?_, fun l j hl hj => ?_, fun l j hl hj => ?_, fun l j hl hj => ?_, a5, a6⟩
    · rw [a1 l hl, brS_end hp hl]
    · exact a2 l j hl (by rw [brS_end hp hl]; exact hj)
    · exact a3 l j hl (by rw [brS_end hp hl]; exact hj)
    · exact a4 l j hl (by rw [brS_end hp hl]; exact hj)
  · rw [w, hp.1]
theorem X7_undo51 {a nl k0 : Nat} (ha : 164 < a) (hnl : nl ≤ 8) (hk0 : k0 ≤ 30) : ∀ (k i m : Nat) (M1 : Mem) (X : St), i + k = k0 → k ≤ X.rc → k < m → CLay M1 → ColLay M1 21 → CC M1 21 fu X → mI M1 18 1 = i32 X.rc → mK M1 a = 1 → mI M1 a 3 = i32 k0 → ∃ M2, f_X7_undoLast_51 m 18 (i32 nl) a (i32 i) M1 = some ((), M2) ∧ Chg ctI M1 M2 ∧ CC M2 21 fu (cutN nl k X) ∧ mI M2 18 1 = i32 (cutN nl k X).rc := by
  intro k
  induction k with
  | zero =>
    intro i m M1 X hi hk hm hL hc hC h1 hK h3
    obtain ⟨m, rfl⟩ : ∃ q, m = q + 1 := ⟨m - 1, by omega⟩
    refine ⟨M1, ?_, Chg.rf _ M1, hC, h1⟩
    have : i = k0 := by omega
    subst this
    unfold f_X7_undoLast_51
    rw [if_pos hK, h3, if_pos (by simp (disch := omega) only [↓reduceIte, add_i0, cast_add1, cast_sub1, toNat120, i32_lit, i32_neg, i32_add, i32_sub, i32_mul, i32_nat, i32_le, i32_lt, i32_eq, inB_i, Int.toNat_natCast, mI_sI_eq, mI_sI_ne, mR_sR_eq, mR_sR_ne, mI_sR, mR_sI, mK_sI, mN_sI, mn_sI, mJ_sI, mK_sR, mN_sR, mn_sR, mJ_sR, mI_wI, mR_wI, mK_wI, mN_wI, mn_wI, mJ_wI, ↓bnd_of, ↓bndX_r, ↓bndX_l, ↓ap_nr, bnd_of, bndX_r, bndX_l, if_true, if_false, ite_true, ite_false, not_true_eq_false, not_false_eq_true, Nat.reduceAdd, Nat.reduceMul, Nat.reduceEqDiff, Int.reduceToNat, Int.reduceNeg, Ilt_t, Ilt_f, Ile_t, Ile_f, Ieq_t, Ieq_f, Nlt_t, Nlt_f, Nle_t, Nle_f, Neq_t, Neq_f, or_true, true_or, or_false, false_or, and_true, true_and, and_false, false_and, ne_eq, or_self, and_self, decide_true, decide_false, Bool.false_eq_true])]
  | succ k ih =>
    intro i m M1 X hi hk hm hL hc hC h1 hK h3
    obtain ⟨m, rfl⟩ : ∃ q, m = q + 1 := ⟨m - 1, by omega⟩
    obtain ⟨M2, e2, g2, q2, w2⟩ := X7_cut hL hc hC h1 (by omega) hnl
    have hx : (cutS nl X).rc = X.rc - 1 := rfl
    obtain ⟨M3, e3, g3, q3, w3⟩ := ih (i + 1) m M2 (cutS nl X) (by omega) (by omega) (by omega) (hL.all g2) (hc.all g2) q2 w2 (by rw [g2.1]; exact hK) (by rw [g2.i (by unfold ctI; omega)]; exact h3)
    refine ⟨M3, ?_, g2.tr g3, q3, w3⟩
    rw [← e3]
    have k18 := hL.tel.o.2.2.2.2.1
    have lt : ¬ (i32 (k0 : Int) ≤ i32 (i : Int)) := by simp (disch := omega) only [↓reduceIte, add_i0, cast_add1, cast_sub1, toNat120, i32_lit, i32_neg, i32_add, i32_sub, i32_mul, i32_nat, i32_le, i32_lt, i32_eq, inB_i, Int.toNat_natCast, mI_sI_eq, mI_sI_ne, mR_sR_eq, mR_sR_ne, mI_sR, mR_sI, mK_sI, mN_sI, mn_sI, mJ_sI, mK_sR, mN_sR, mn_sR, mJ_sR, mI_wI, mR_wI, mK_wI, mN_wI, mn_wI, mJ_wI, ↓bnd_of, ↓bndX_r, ↓bndX_l, ↓ap_nr, bnd_of, bndX_r, bndX_l, if_true, if_false, ite_true, ite_false, not_true_eq_false, not_false_eq_true, Nat.reduceAdd, Nat.reduceMul, Nat.reduceEqDiff, Int.reduceToNat, Int.reduceNeg, Ilt_t, Ilt_f, Ile_t, Ile_f, Ieq_t, Ieq_f, Nlt_t, Nlt_f, Nle_t, Nle_f, Neq_t, Neq_f, or_true, true_or, or_false, false_or, and_true, true_and, and_false, false_and, ne_eq, or_self, and_self, decide_true, decide_false, Bool.false_eq_true]
    conv => lhs; unfold f_X7_undoLast_51
    rw [if_pos hK, h3, if_neg lt, if_pos k18, bx e2, k_add1]
end
