/-! years in the class: the call -/
section
variable {M : Mem} {S : Sc} {s : Nat} {A : St} {dp : Nat → Nat}
def y3C (a j : Nat) : Prop := a = 16 ∨ (a = 15 ∧ j = 1)
theorem X10_run26 (hW : S.wf) (hY : YCL M s S) (hc : ColLay M 21) (hA : CC M 21 S.fu A) (n : Int32) : ∀ (k j m : Nat) (M1 : Mem), j + k = 8 → k < m → Chg y3C M M1 → (∀ l, l < j → mI M1 16 l = i32 (cz S A l)) → mI M1 15 1 = i32 (vsF A S.fu (min j S.nl) 0) → ∃ M2, f_X10_run_26 m 15 18 n (i32 j) M1 = f_X10_run_110 FUEL 15 n (0 : Int32) M2 ∧ Chg y3C M M2 ∧ (∀ l, l < 8 → mI M2 16 l = i32 (cz S A l)) ∧ mI M2 15 1 = i32 (vsF A S.fu S.nl 0) := by
  have hnl := hW.1.2.1
  obtain ⟨hL, hsl, hsh, s1, s2, h6⟩ := id hY
  intro k
  induction k with
  | zero =>
    intro j m M1 hj hm g h1 h2
    obtain ⟨m, rfl⟩ : ∃ q, m = q + 1 := ⟨m - 1, by omega⟩
    refine ⟨M1, ?_, g, fun l hl => h1 l (by omega), ?_⟩
    · unfold f_X10_run_26
      rw [if_pos (by simp (disch := omega) only [↓reduceIte, add_i0, cast_add1, cast_sub1, toNat120, i32_lit, i32_neg, i32_add, i32_sub, i32_mul, i32_nat, i32_le, i32_lt, i32_eq, inB_i, Int.toNat_natCast, mI_sI_eq, mI_sI_ne, mR_sR_eq, mR_sR_ne, mI_sR, mR_sI, mK_sI, mN_sI, mn_sI, mJ_sI, mK_sR, mN_sR, mn_sR, mJ_sR, mI_wI, mR_wI, mK_wI, mN_wI, mn_wI, mJ_wI, ↓bnd_of, ↓bndX_r, ↓bndX_l, ↓ap_nr, bnd_of, bndX_r, bndX_l, if_true, if_false, ite_true, ite_false, not_true_eq_false, not_false_eq_true, Nat.reduceAdd, Nat.reduceMul, Nat.reduceEqDiff, Int.reduceToNat, Int.reduceNeg, Ilt_t, Ilt_f, Ile_t, Ile_f, Ieq_t, Ieq_f, Nlt_t, Nlt_f, Nle_t, Nle_f, Neq_t, Neq_f, or_true, true_or, or_false, false_or, and_true, true_and, and_false, false_and, ne_eq, or_self, and_self, decide_true, decide_false, Bool.false_eq_true])]
    · rw [h2, show min j S.nl = S.nl by omega]
  | succ k ih =>
    intro j m M1 hj hm g h1 h2
    obtain ⟨m, rfl⟩ : ∃ q, m = q + 1 := ⟨m - 1, by omega⟩
    have hL1 := hL.all g
    have hsl1 := hsl.all g
    have k15 : mK M1 15 = 11 := by simp only [hL1.o]
    have r2 : mR M1 15 2 = 16 := by simp only [hL1.o]
    have k16 : mK M1 16 = 21 := by simp only [hL1.o]
    have n16 : mN M1 16 = 8 := by simp only [hL1.o]
    have r6 : mR M1 15 6 = s := by rw [g.r]; exact h6
    have ks : mK M1 s = 6 := by simp only [hsl1.o]
    have inj : inB (i32 (j : Int)) 8 = true := by simp (disch := omega) only [↓reduceIte, add_i0, cast_add1, cast_sub1, toNat120, i32_lit, i32_neg, i32_add, i32_sub, i32_mul, i32_nat, i32_le, i32_lt, i32_eq, inB_i, Int.toNat_natCast, mI_sI_eq, mI_sI_ne, mR_sR_eq, mR_sR_ne, mI_sR, mR_sI, mK_sI, mN_sI, mn_sI, mJ_sI, mK_sR, mN_sR, mn_sR, mJ_sR, mI_wI, mR_wI, mK_wI, mN_wI, mn_wI, mJ_wI, ↓bnd_of, ↓bndX_r, ↓bndX_l, ↓ap_nr, bnd_of, bndX_r, bndX_l, if_true, if_false, ite_true, ite_false, not_true_eq_false, not_false_eq_true, Nat.reduceAdd, Nat.reduceMul, Nat.reduceEqDiff, Int.reduceToNat, Int.reduceNeg, Ilt_t, Ilt_f, Ile_t, Ile_f, Ieq_t, Ieq_f, Nlt_t, Nlt_f, Nle_t, Nle_f, Neq_t, Neq_f, or_true, true_or, or_false, false_or, and_true, true_and, and_false, false_and, ne_eq, or_self, and_self, decide_true, decide_false, Bool.false_eq_true]
    have lt : ¬ ((8 : Int32) ≤ i32 (j : Int)) := by simp (disch := omega) only [↓reduceIte, add_i0, cast_add1, cast_sub1, toNat120, i32_lit, i32_neg, i32_add, i32_sub, i32_mul, i32_nat, i32_le, i32_lt, i32_eq, inB_i, Int.toNat_natCast, mI_sI_eq, mI_sI_ne, mR_sR_eq, mR_sR_ne, mI_sR, mR_sI, mK_sI, mN_sI, mn_sI, mJ_sI, mK_sR, mN_sR, mn_sR, mJ_sR, mI_wI, mR_wI, mK_wI, mN_wI, mn_wI, mJ_wI, ↓bnd_of, ↓bndX_r, ↓bndX_l, ↓ap_nr, bnd_of, bndX_r, bndX_l, if_true, if_false, ite_true, ite_false, not_true_eq_false, not_false_eq_true, Nat.reduceAdd, Nat.reduceMul, Nat.reduceEqDiff, Int.reduceToNat, Int.reduceNeg, Ilt_t, Ilt_f, Ile_t, Ile_f, Ieq_t, Ieq_f, Nlt_t, Nlt_f, Nle_t, Nle_f, Neq_t, Neq_f, or_true, true_or, or_false, false_or, and_true, true_and, and_false, false_and, ne_eq, or_self, and_self, decide_true, decide_false, Bool.false_eq_true]
    have en : mI M1 s 1 = i32 S.nl := by rw [g.i (by unfold y3C; omega)]; exact hsh.2.1
    have go : ∀ (v : Nat) (x : Int), (v = cz S A j) → vsF A S.fu (min j S.nl) 0 + x = vsF A S.fu (min (j + 1) S.nl) 0 → f_X10_run_26 (m + 1) 15 18 n (i32 (j : Int)) M1 = f_X10_run_26 m 15 18 n (i32 ((j + 1 : Nat) : Int)) (sI (sI M1 16 j (i32 (v : Int))) 15 1 (i32 (vsF A S.fu (min j S.nl) 0) + i32 x)) → ∃ M2, f_X10_run_26 (m + 1) 15 18 n (i32 (j : Int)) M1 = f_X10_run_110 FUEL 15 n (0 : Int32) M2 ∧ Chg y3C M M2 ∧ (∀ l, l < 8 → mI M2 16 l = i32 (cz S A l)) ∧ mI M2 15 1 = i32 (vsF A S.fu S.nl 0) := fun v x hv hx hst => by
      rw [hst]
      refine ih (j + 1) m _ (by omega) (by omega) ((g.sI (by unfold y3C; omega)).sI (by unfold y3C; omega)) (fun l hl => ?_) ?_
      · rw [mI_sI_ne (by omega)]
        by_cases q : l = j
        · subst q
          rw [mI_sI_eq, hv]
        · rw [mI_sI_ne (by omega)]
          exact h1 l (by omega)
      · rw [mI_sI_eq, i32_add, hx]
    by_cases c : S.nl ≤ j
    · have le : i32 (S.nl : Int) ≤ i32 (j : Int) := by simp (disch := omega) only [↓reduceIte, add_i0, cast_add1, cast_sub1, toNat120, i32_lit, i32_neg, i32_add, i32_sub, i32_mul, i32_nat, i32_le, i32_lt, i32_eq, inB_i, Int.toNat_natCast, mI_sI_eq, mI_sI_ne, mR_sR_eq, mR_sR_ne, mI_sR, mR_sI, mK_sI, mN_sI, mn_sI, mJ_sI, mK_sR, mN_sR, mn_sR, mJ_sR, mI_wI, mR_wI, mK_wI, mN_wI, mn_wI, mJ_wI, ↓bnd_of, ↓bndX_r, ↓bndX_l, ↓ap_nr, bnd_of, bndX_r, bndX_l, if_true, if_false, ite_true, ite_false, not_true_eq_false, not_false_eq_true, Nat.reduceAdd, Nat.reduceMul, Nat.reduceEqDiff, Int.reduceToNat, Int.reduceNeg, Ilt_t, Ilt_f, Ile_t, Ile_f, Ieq_t, Ieq_f, Nlt_t, Nlt_f, Nle_t, Nle_f, Neq_t, Neq_f, or_true, true_or, or_false, false_or, and_true, true_and, and_false, false_and, ne_eq, or_self, and_self, decide_true, decide_false, Bool.false_eq_true]
      refine go 0 0 (by unfold cz; rw [if_neg (by omega)]) (by rw [Int.add_zero, show min (j + 1) S.nl = min j S.nl by omega]) ?_
      have en3 : mI (sI M1 16 j (0 : Int32)) s 1 = i32 S.nl := by rw [mI_sI_ne (by omega)]; exact en
      have h23 : mI (sI M1 16 j (0 : Int32)) 15 1 = i32 (vsF A S.fu (min j S.nl) 0) := by rw [mI_sI_ne (by omega)]; exact h2
      conv => lhs; unfold f_X10_run_26
      rw [if_neg lt, if_pos k15, r6, if_pos ks, en, if_pos le, r2]
      unfold f_X10_run_65
      rw [if_pos k16, n16, if_pos inj, nat_i (by omega), ap_of, if_pos (by exact k15), mR_sI, r6, if_pos (by exact ks), en3, if_pos le]
      unfold f_X10_run_97
      rw [if_pos (by exact k15), h23, ap_of, k_add1]
      rfl
    · have nle : ¬ (i32 (S.nl : Int) ≤ i32 (j : Int)) := by simp (disch := omega) only [↓reduceIte, add_i0, cast_add1, cast_sub1, toNat120, i32_lit, i32_neg, i32_add, i32_sub, i32_mul, i32_nat, i32_le, i32_lt, i32_eq, inB_i, Int.toNat_natCast, mI_sI_eq, mI_sI_ne, mR_sR_eq, mR_sR_ne, mI_sR, mR_sI, mK_sI, mN_sI, mn_sI, mJ_sI, mK_sR, mN_sR, mn_sR, mJ_sR, mI_wI, mR_wI, mK_wI, mN_wI, mn_wI, mJ_wI, ↓bnd_of, ↓bndX_r, ↓bndX_l, ↓ap_nr, bnd_of, bndX_r, bndX_l, if_true, if_false, ite_true, ite_false, not_true_eq_false, not_false_eq_true, Nat.reduceAdd, Nat.reduceMul, Nat.reduceEqDiff, Int.reduceToNat, Int.reduceNeg, Ilt_t, Ilt_f, Ile_t, Ile_f, Ieq_t, Ieq_f, Nlt_t, Nlt_f, Nle_t, Nle_f, Neq_t, Neq_f, or_true, true_or, or_false, false_or, and_true, true_and, and_false, false_and, ne_eq, or_self, and_self, decide_true, decide_false, Bool.false_eq_true]
      have k18 : mK M1 18 = 8 := by simp only [hL1.o]
      have r0 : mR M1 18 0 = 19 := by simp only [hL1.o]
      have k19 : mK M1 19 = 23 := by simp only [hL1.o]
      have n19 : mN M1 19 = 8 := by simp only [hL1.o]
      have hc1 := hc.all g
      have hca := hc1.at21 (l := j) (by omega)
      have rj : mR M1 19 j = 21 + 4 * j := by simp only [hca.o]
      have kj : mK M1 (21 + 4 * j) = 3 := by simp only [hca.o]
      have ez : mI M1 (21 + 4 * j) 3 = i32 (A.sz j) := by rw [g.i (by unfold y3C; omega)]; exact hA.2.1 j (by omega)
      have g3 : Chg y3C M (sI M1 16 j (i32 (A.sz j : Int))) := g.sI (by unfold y3C; omega)
      have hA3 : CC (sI M1 16 j (i32 (A.sz j : Int))) 21 S.fu A := hA.gw (P := y3C) (Q := fun _ _ => False) (by omega) (g3.gw (fun a j q => by unfold y3C at q; omega)) (fun a j q => by unfold y3C at q; omega)
      have ev := X2_valueSum (hc.all g3) hA3 (l := j) (by omega)
      rw [vs1_lp] at ev
      have en3 : mI (sI M1 16 j (i32 (A.sz j : Int))) s 1 = i32 S.nl := by rw [mI_sI_ne (by omega)]; exact en
      have h23 : mI (sI M1 16 j (i32 (A.sz j : Int))) 15 1 = i32 (vsF A S.fu (min j S.nl) 0) := by rw [mI_sI_ne (by omega)]; exact h2
      refine go (A.sz j) (0 + vs1 A S.fu j (A.sz j) 0) (by unfold cz; rw [if_pos (by omega)]) (by rw [Int.zero_add, show min (j + 1) S.nl = j + 1 by omega, show min j S.nl = j by omega, vsF_snoc, Nat.zero_add]) ?_
      conv => lhs; unfold f_X10_run_26
      rw [if_neg lt, if_pos k15, r6, if_pos ks, en, if_neg nle, if_pos k18, r0, if_pos k19, n19, if_pos inj, nat_i (by omega), rj, if_pos kj, ez, r2]
      unfold f_X10_run_65
      rw [if_pos k16, n16, if_pos inj, nat_i (by omega), ap_of, if_pos (by exact k15), mR_sI, r6, if_pos (by exact ks), en3, if_neg nle, if_pos (by exact k18), r0, if_pos (by exact k19), mN_sI, n19, if_pos inj, rj, if_pos (by exact kj), bx ev]
      unfold f_X10_run_97
      rw [if_pos (by exact k15), h23, ap_of, k_add1]
theorem X10_run0 (hV : CV M s S A) (seed n : Int32) : ∃ M1, f_X10_run 15 s 18 seed n M = f_X10_run_26 FUEL 15 18 n (i32 ((0 : Nat) : Int)) M1 ∧ Scr M M1 ∧ mR M1 15 6 = s ∧ mI M1 15 5 = seed ∧ mI M1 15 0 = i32 A.rc ∧ mI M1 15 1 = i32 0 := by
  obtain ⟨hL, hc, hsl, hsh, hA, hr, s1, s2, hmn⟩ := hV
  have k15 : mK M 15 = 11 := by simp only [hL.o]
  have k18 : mK M 18 = 8 := by simp only [hL.o]
  have hr' : mI (sI (sR M 15 6 s) 15 5 seed) 18 1 = i32 A.rc := by rw [mI_sI_ne (by omega), mI_sR]; exact hr
  refine ⟨sI (sI (sI (sR M 15 6 s) 15 5 seed) 15 0 (i32 (A.rc : Int))) 15 1 (i32 0), ?_, ((((Scr.rf M).sR (by unfold ScR; omega)).sI (by unfold ScI; omega)).sI (by unfold ScI; omega)).sI (by unfold ScI; omega), ?_, ?_, ?_, mI_sI_eq⟩
  · unfold f_X10_run
    rw [if_pos k15, if_pos (by rw [okB1 (by omega)]; trivial), ap_of, if_pos (by exact k15), ap_of, if_pos (by exact k18), if_pos (by exact k15), hr', ap_of, if_pos (by exact k15), ap_of]
    rfl
  · exact mR_sR_eq
  · rw [mI_sI_ne (by omega), mI_sI_ne (by omega), mI_sI_eq]
  · rw [mI_sI_ne (by omega), mI_sI_eq]
theorem y3s (a j : Nat) (q : y3C a j) : ScI a j := by unfold y3C at q; unfold ScI; omega
theorem y2s (a j : Nat) (q : y2C a j) : ScI a j := by unfold y2C at q; unfold ScI; omega
theorem y32 (a j : Nat) (q : y3C a j) : y2C a j := by unfold y3C at q; unfold y2C; omega
theorem X10_run (hW : S.wf) (hVT : VT S S dp) (hV : CV M s S A) (seed : Int32) {n : Nat} (hn : n ≤ 10) : ∃ M', f_X10_run 15 s 18 seed (i32 n) M = some ((), M') ∧ Scr M M' ∧ YS M' S (yrs S n (A, seed)).1 (vsF (yrs S n (A, seed)).1 S.fu S.nl 0) (yrs S n (A, seed)).2 := by
  have hnl := hW.1.2.1
  obtain ⟨M1, e1, g1, p6, p5, p0, p1⟩ := X10_run0 hV seed (i32 (n : Int))
  obtain ⟨hL, hc, hsl, hsh, hA, hr, s1, s2, hmn⟩ := hV
  have hY1 : YCL M1 s S := ⟨hL.scr g1, hsl.scr s1 g1, hsh.scr s1 s2 g1, s1, s2, p6⟩
  have hA1 : CC M1 21 S.fu A := hA.scr (by omega) (by omega) g1
  have hc1 : ColLay M1 21 := hc.scr (by omega) g1
  have p1' : mI M1 15 1 = i32 (vsF A S.fu (min 0 S.nl) 0) := by
    have z : vsF A S.fu 0 0 = 0 := rfl
    rw [p1, show min 0 S.nl = 0 by omega, z]
  obtain ⟨M2, e2, g2, w1, w2⟩ := X10_run26 hW hY1 hc1 hA1 (i32 (n : Int)) 8 0 FUEL M1 (by omega) (by unfold FUEL; omega) (Chg.rf _ M1) (fun l hl => by omega) p1'
  have q0 : mI M2 15 0 = i32 A.rc := by rw [g2.i (by unfold y3C; omega)]; exact p0
  have q5 : mI M2 15 5 = seed := by rw [g2.i (by unfold y3C; omega)]; exact p5
  have hY2 : YCL M2 s S := hY1.chg2 (g2.mono y32)
  obtain ⟨M3, e3, g3, hok, w3⟩ := X10_run110 (n := n) hn hW hVT hY2 n 0 FUEL M2 A seed (by omega) (by unfold FUEL; omega) (Chg.rf _ M2) hA.1 ⟨q0, w2, w1, q5⟩
  refine ⟨M3, ?_, g1.tr ((g2.scr y3s).tr (g3.scr y2s)), w3⟩
  rw [e1, e2, ← e3]
  rfl
theorem c_years (h : RO M s S A) (hVT : VT S S dp) (seed : Int32) (n w : Int) (z1 : -2147483648 ≤ n) (z2 : n ≤ 2147483647) (z3 : -2147483648 ≤ w) (z4 : w ≤ 2147483647) : ∃ M', f_X11_years 1 seed (i32 n) (i32 w) M = some (a_years S A seed n w, M') ∧ Scr M M' := by
  obtain ⟨hW, hV, -, h8⟩ := h
  have hS := hW.1
  have hnl := hS.2.1
  have hnf := hS.1
  have hL := hV.1
  have ks : mK M s = 6 := hV.2.2.1.o.1
  have k1 : mK M 1 = 12 := by simp only [hL.o]
  have en := hV.2.2.2.1.1
  unfold a_years
  by_cases d : 0 ≤ w ∧ w ≤ 2
  · rw [if_pos d]
    have a1 : ¬ (i32 w < i32 0) := by simp (disch := omega) only [↓reduceIte, add_i0, cast_add1, cast_sub1, toNat120, i32_lit, i32_neg, i32_add, i32_sub, i32_mul, i32_nat, i32_le, i32_lt, i32_eq, inB_i, Int.toNat_natCast, mI_sI_eq, mI_sI_ne, mR_sR_eq, mR_sR_ne, mI_sR, mR_sI, mK_sI, mN_sI, mn_sI, mJ_sI, mK_sR, mN_sR, mn_sR, mJ_sR, mI_wI, mR_wI, mK_wI, mN_wI, mn_wI, mJ_wI, ↓bnd_of, ↓bndX_r, ↓bndX_l, ↓ap_nr, bnd_of, bndX_r, bndX_l, if_true, if_false, ite_true, ite_false, not_true_eq_false, not_false_eq_true, Nat.reduceAdd, Nat.reduceMul, Nat.reduceEqDiff, Int.reduceToNat, Int.reduceNeg, Ilt_t, Ilt_f, Ile_t, Ile_f, Ieq_t, Ieq_f, Nlt_t, Nlt_f, Nle_t, Nle_f, Neq_t, Neq_f, or_true, true_or, or_false, false_or, and_true, true_and, and_false, false_and, ne_eq, or_self, and_self, decide_true, decide_false, Bool.false_eq_true]
    have a2 : i32 w ≤ i32 2 := by simp (disch := omega) only [↓reduceIte, add_i0, cast_add1, cast_sub1, toNat120, i32_lit, i32_neg, i32_add, i32_sub, i32_mul, i32_nat, i32_le, i32_lt, i32_eq, inB_i, Int.toNat_natCast, mI_sI_eq, mI_sI_ne, mR_sR_eq, mR_sR_ne, mI_sR, mR_sI, mK_sI, mN_sI, mn_sI, mJ_sI, mK_sR, mN_sR, mn_sR, mJ_sR, mI_wI, mR_wI, mK_wI, mN_wI, mn_wI, mJ_wI, ↓bnd_of, ↓bndX_r, ↓bndX_l, ↓ap_nr, bnd_of, bndX_r, bndX_l, if_true, if_false, ite_true, ite_false, not_true_eq_false, not_false_eq_true, Nat.reduceAdd, Nat.reduceMul, Nat.reduceEqDiff, Int.reduceToNat, Int.reduceNeg, Ilt_t, Ilt_f, Ile_t, Ile_f, Ieq_t, Ieq_f, Nlt_t, Nlt_f, Nle_t, Nle_f, Neq_t, Neq_f, or_true, true_or, or_false, false_or, and_true, true_and, and_false, false_and, ne_eq, or_self, and_self, decide_true, decide_false, Bool.false_eq_true]
    by_cases d2 : 0 ≤ n ∧ n ≤ 10
    · rw [if_pos d2]
      have a3 : ¬ (i32 n < i32 0) := by simp (disch := omega) only [↓reduceIte, add_i0, cast_add1, cast_sub1, toNat120, i32_lit, i32_neg, i32_add, i32_sub, i32_mul, i32_nat, i32_le, i32_lt, i32_eq, inB_i, Int.toNat_natCast, mI_sI_eq, mI_sI_ne, mR_sR_eq, mR_sR_ne, mI_sR, mR_sI, mK_sI, mN_sI, mn_sI, mJ_sI, mK_sR, mN_sR, mn_sR, mJ_sR, mI_wI, mR_wI, mK_wI, mN_wI, mn_wI, mJ_wI, ↓bnd_of, ↓bndX_r, ↓bndX_l, ↓ap_nr, bnd_of, bndX_r, bndX_l, if_true, if_false, ite_true, ite_false, not_true_eq_false, not_false_eq_true, Nat.reduceAdd, Nat.reduceMul, Nat.reduceEqDiff, Int.reduceToNat, Int.reduceNeg, Ilt_t, Ilt_f, Ile_t, Ile_f, Ieq_t, Ieq_f, Nlt_t, Nlt_f, Nle_t, Nle_f, Neq_t, Neq_f, or_true, true_or, or_false, false_or, and_true, true_and, and_false, false_and, ne_eq, or_self, and_self, decide_true, decide_false, Bool.false_eq_true]
      have a4 : i32 n ≤ i32 10 := by simp (disch := omega) only [↓reduceIte, add_i0, cast_add1, cast_sub1, toNat120, i32_lit, i32_neg, i32_add, i32_sub, i32_mul, i32_nat, i32_le, i32_lt, i32_eq, inB_i, Int.toNat_natCast, mI_sI_eq, mI_sI_ne, mR_sR_eq, mR_sR_ne, mI_sR, mR_sI, mK_sI, mN_sI, mn_sI, mJ_sI, mK_sR, mN_sR, mn_sR, mJ_sR, mI_wI, mR_wI, mK_wI, mN_wI, mn_wI, mJ_wI, ↓bnd_of, ↓bndX_r, ↓bndX_l, ↓ap_nr, bnd_of, bndX_r, bndX_l, if_true, if_false, ite_true, ite_false, not_true_eq_false, not_false_eq_true, Nat.reduceAdd, Nat.reduceMul, Nat.reduceEqDiff, Int.reduceToNat, Int.reduceNeg, Ilt_t, Ilt_f, Ile_t, Ile_f, Ieq_t, Ieq_f, Nlt_t, Nlt_f, Nle_t, Nle_f, Neq_t, Neq_f, or_true, true_or, or_false, false_or, and_true, true_and, and_false, false_and, ne_eq, or_self, and_self, decide_true, decide_false, Bool.false_eq_true]
      have st : f_X11_years 1 seed (i32 n) (i32 w) M = (if (mI M s 0) = 0 then some (.inr (0 : Int32), M) else bnd (f_X11_isWrong 1 M) fun r9 M8 => if r9 = 0 then if mK M8 1 = 12 then if mK M8 (mR M8 1 5) = 11 then bnd (f_X10_run (mR M8 1 5) (mR M8 1 8) (mR M8 1 6) seed (i32 n) M8) fun _ M13 => if i32 w = 0 then if mK M13 1 = 12 then if mK M13 (mR M13 1 5) = 11 then some (.inr (mI M13 (mR M13 1 5) 0), M13) else none else none else if i32 w = (1 : Int32) then if mK M13 1 = 12 then if mK M13 (mR M13 1 5) = 11 then some (.inr (mI M13 (mR M13 1 5) 1), M13) else none else none else if mK M13 1 = 12 then if mK M13 (mR M13 1 5) = 11 then bnd (f_X10_entrySum (mR M13 1 5) M13) fun r20 M19 => some (.inr r20, M19) else none else none else none else none else some (.inr (0 : Int32), M8)) := by
        conv => lhs; unfold f_X11_years
        rw [if_neg (by exact a1), if_pos (by exact a2), if_neg (by exact a3), if_pos (by exact a4), if_pos k1, h8, if_pos ks]
      rw [st, en]
      by_cases d3 : S.nf = 0
      · rw [if_pos (Or.inl d3), d3, if_pos (by rfl)]
        exact ⟨M, rfl, Scr.rf M⟩
      · have nz : ¬ (i32 (S.nf : Int) = i32 0) := i32_ne (by omega) (by omega) (by omega) (by omega) (by omega)
        rw [if_neg (by exact nz)]
        obtain ⟨M1, e1, g1⟩ := X11_isWrong hS hV h8
        have hV1 := hV.scr g1
        have hL1 := hV1.1
        by_cases d4 : (chk S A).1 = 0
        · rw [if_pos d4] at e1
          rw [if_neg (by omega)]
          obtain ⟨n, rfl⟩ : ∃ k : Nat, n = k := ⟨n.toNat, by omega⟩
          rw [Int.toNat_natCast]
          obtain ⟨M2, e2, g2, y⟩ := X10_run hW hVT hV1 seed (n := n) (by omega)
          have hL2 := hL1.scr g2
          have k11 : mK M1 1 = 12 := by simp only [hL1.o]
          have r5 : mR M1 1 5 = 15 := by simp only [hL1.o]
          have r6 : mR M1 1 6 = 18 := by simp only [hL1.o]
          have k15 : mK M1 15 = 11 := by simp only [hL1.o]
          have r8 : mR M1 1 8 = s := by rw [g1.r (by unfold ScR; omega)]; exact h8
          have k12 : mK M2 1 = 12 := by simp only [hL2.o]
          have r52 : mR M2 1 5 = 15 := by simp only [hL2.o]
          have k152 : mK M2 15 = 11 := by simp only [hL2.o]
          refine ⟨M2, ?_, g1.tr g2⟩
          rw [bx e1, if_pos (by rfl), if_pos k11, r5, if_pos k15, r8, r6, bx e2]
          by_cases w0 : w = 0
          · rw [w0, if_pos (by rfl), if_pos k12, r52, if_pos k152, y.1, if_pos rfl]
          · have nw : ¬ (i32 w = i32 0) := i32_ne (by omega) (by omega) (by omega) (by omega) w0
            rw [if_neg (by exact nw), if_neg w0]
            by_cases w1 : w = 1
            · rw [w1, if_pos (by rfl), if_pos k12, r52, if_pos k152, y.2.1, if_pos rfl]
            · have nw1 : ¬ (i32 w = i32 1) := i32_ne (by omega) (by omega) (by omega) (by omega) w1
              have es := X10_sum4 hL2 y.2.2.1 8 0 FUEL (i32 0) (by omega) (by unfold FUEL; omega)
              rw [all_cz S _ hnl] at es
              have es : f_X10_entrySum 15 M2 = _ := es
              rw [if_neg (by exact nw1), if_neg w1, if_pos k12, r52, if_pos k152, bx es]
        · rw [if_neg d4] at e1
          rw [if_pos (Or.inr d4)]
          have nz1 : ¬ (i32 1 = i32 0) := i32_ne (by omega) (by omega) (by omega) (by omega) (by omega)
          refine ⟨M1, ?_, g1⟩
          rw [bx e1, if_neg (by exact nz1)]
          rfl
    · rw [if_neg d2]
      refine ⟨M, ?_, Scr.rf M⟩
      unfold f_X11_years
      rw [if_neg (by exact a1), if_pos (by exact a2)]
      by_cases c : n < 0
      · rw [if_pos (by simp (disch := omega) only [↓reduceIte, add_i0, cast_add1, cast_sub1, toNat120, i32_lit, i32_neg, i32_add, i32_sub, i32_mul, i32_nat, i32_le, i32_lt, i32_eq, inB_i, Int.toNat_natCast, mI_sI_eq, mI_sI_ne, mR_sR_eq, mR_sR_ne, mI_sR, mR_sI, mK_sI, mN_sI, mn_sI, mJ_sI, mK_sR, mN_sR, mn_sR, mJ_sR, mI_wI, mR_wI, mK_wI, mN_wI, mn_wI, mJ_wI, ↓bnd_of, ↓bndX_r, ↓bndX_l, ↓ap_nr, bnd_of, bndX_r, bndX_l, if_true, if_false, ite_true, ite_false, not_true_eq_false, not_false_eq_true, Nat.reduceAdd, Nat.reduceMul, Nat.reduceEqDiff, Int.reduceToNat, Int.reduceNeg, Ilt_t, Ilt_f, Ile_t, Ile_f, Ieq_t, Ieq_f, Nlt_t, Nlt_f, Nle_t, Nle_f, Neq_t, Neq_f, or_true, true_or, or_false, false_or, and_true, true_and, and_false, false_and, ne_eq, or_self, and_self, decide_true, decide_false, Bool.false_eq_true])]
        rfl
      · rw [if_neg (by simp (disch := omega) only [↓reduceIte, add_i0, cast_add1, cast_sub1, toNat120, i32_lit, i32_neg, i32_add, i32_sub, i32_mul, i32_nat, i32_le, i32_lt, i32_eq, inB_i, Int.toNat_natCast, mI_sI_eq, mI_sI_ne, mR_sR_eq, mR_sR_ne, mI_sR, mR_sI, mK_sI, mN_sI, mn_sI, mJ_sI, mK_sR, mN_sR, mn_sR, mJ_sR, mI_wI, mR_wI, mK_wI, mN_wI, mn_wI, mJ_wI, ↓bnd_of, ↓bndX_r, ↓bndX_l, ↓ap_nr, bnd_of, bndX_r, bndX_l, if_true, if_false, ite_true, ite_false, not_true_eq_false, not_false_eq_true, Nat.reduceAdd, Nat.reduceMul, Nat.reduceEqDiff, Int.reduceToNat, Int.reduceNeg, Ilt_t, Ilt_f, Ile_t, Ile_f, Ieq_t, Ieq_f, Nlt_t, Nlt_f, Nle_t, Nle_f, Neq_t, Neq_f, or_true, true_or, or_false, false_or, and_true, true_and, and_false, false_and, ne_eq, or_self, and_self, decide_true, decide_false, Bool.false_eq_true]), if_neg (by simp (disch := omega) only [↓reduceIte, add_i0, cast_add1, cast_sub1, toNat120, i32_lit, i32_neg, i32_add, i32_sub, i32_mul, i32_nat, i32_le, i32_lt, i32_eq, inB_i, Int.toNat_natCast, mI_sI_eq, mI_sI_ne, mR_sR_eq, mR_sR_ne, mI_sR, mR_sI, mK_sI, mN_sI, mn_sI, mJ_sI, mK_sR, mN_sR, mn_sR, mJ_sR, mI_wI, mR_wI, mK_wI, mN_wI, mn_wI, mJ_wI, ↓bnd_of, ↓bndX_r, ↓bndX_l, ↓ap_nr, bnd_of, bndX_r, bndX_l, if_true, if_false, ite_true, ite_false, not_true_eq_false, not_false_eq_true, Nat.reduceAdd, Nat.reduceMul, Nat.reduceEqDiff, Int.reduceToNat, Int.reduceNeg, Ilt_t, Ilt_f, Ile_t, Ile_f, Ieq_t, Ieq_f, Nlt_t, Nlt_f, Nle_t, Nle_f, Neq_t, Neq_f, or_true, true_or, or_false, false_or, and_true, true_and, and_false, false_and, ne_eq, or_self, and_self, decide_true, decide_false, Bool.false_eq_true])]
        rfl
  · rw [if_neg d]
    refine ⟨M, ?_, Scr.rf M⟩
    unfold f_X11_years
    by_cases c : w < 0
    · rw [if_pos (by simp (disch := omega) only [↓reduceIte, add_i0, cast_add1, cast_sub1, toNat120, i32_lit, i32_neg, i32_add, i32_sub, i32_mul, i32_nat, i32_le, i32_lt, i32_eq, inB_i, Int.toNat_natCast, mI_sI_eq, mI_sI_ne, mR_sR_eq, mR_sR_ne, mI_sR, mR_sI, mK_sI, mN_sI, mn_sI, mJ_sI, mK_sR, mN_sR, mn_sR, mJ_sR, mI_wI, mR_wI, mK_wI, mN_wI, mn_wI, mJ_wI, ↓bnd_of, ↓bndX_r, ↓bndX_l, ↓ap_nr, bnd_of, bndX_r, bndX_l, if_true, if_false, ite_true, ite_false, not_true_eq_false, not_false_eq_true, Nat.reduceAdd, Nat.reduceMul, Nat.reduceEqDiff, Int.reduceToNat, Int.reduceNeg, Ilt_t, Ilt_f, Ile_t, Ile_f, Ieq_t, Ieq_f, Nlt_t, Nlt_f, Nle_t, Nle_f, Neq_t, Neq_f, or_true, true_or, or_false, false_or, and_true, true_and, and_false, false_and, ne_eq, or_self, and_self, decide_true, decide_false, Bool.false_eq_true])]
      rfl
    · rw [if_neg (by simp (disch := omega) only [↓reduceIte, add_i0, cast_add1, cast_sub1, toNat120, i32_lit, i32_neg, i32_add, i32_sub, i32_mul, i32_nat, i32_le, i32_lt, i32_eq, inB_i, Int.toNat_natCast, mI_sI_eq, mI_sI_ne, mR_sR_eq, mR_sR_ne, mI_sR, mR_sI, mK_sI, mN_sI, mn_sI, mJ_sI, mK_sR, mN_sR, mn_sR, mJ_sR, mI_wI, mR_wI, mK_wI, mN_wI, mn_wI, mJ_wI, ↓bnd_of, ↓bndX_r, ↓bndX_l, ↓ap_nr, bnd_of, bndX_r, bndX_l, if_true, if_false, ite_true, ite_false, not_true_eq_false, not_false_eq_true, Nat.reduceAdd, Nat.reduceMul, Nat.reduceEqDiff, Int.reduceToNat, Int.reduceNeg, Ilt_t, Ilt_f, Ile_t, Ile_f, Ieq_t, Ieq_f, Nlt_t, Nlt_f, Nle_t, Nle_f, Neq_t, Neq_f, or_true, true_or, or_false, false_or, and_true, true_and, and_false, false_and, ne_eq, or_self, and_self, decide_true, decide_false, Bool.false_eq_true]), if_neg (by simp (disch := omega) only [↓reduceIte, add_i0, cast_add1, cast_sub1, toNat120, i32_lit, i32_neg, i32_add, i32_sub, i32_mul, i32_nat, i32_le, i32_lt, i32_eq, inB_i, Int.toNat_natCast, mI_sI_eq, mI_sI_ne, mR_sR_eq, mR_sR_ne, mI_sR, mR_sI, mK_sI, mN_sI, mn_sI, mJ_sI, mK_sR, mN_sR, mn_sR, mJ_sR, mI_wI, mR_wI, mK_wI, mN_wI, mn_wI, mJ_wI, ↓bnd_of, ↓bndX_r, ↓bndX_l, ↓ap_nr, bnd_of, bndX_r, bndX_l, if_true, if_false, ite_true, ite_false, not_true_eq_false, not_false_eq_true, Nat.reduceAdd, Nat.reduceMul, Nat.reduceEqDiff, Int.reduceToNat, Int.reduceNeg, Ilt_t, Ilt_f, Ile_t, Ile_f, Ieq_t, Ieq_f, Nlt_t, Nlt_f, Nle_t, Nle_f, Neq_t, Neq_f, or_true, true_or, or_false, false_or, and_true, true_and, and_false, false_and, ne_eq, or_self, and_self, decide_true, decide_false, Bool.false_eq_true])]
      rfl
end
