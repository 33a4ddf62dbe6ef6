/-! undo in the class: the call -/
section
variable {M : Mem} {A B : St} {fu : Nat → Int} {S : Sc} {s n : Nat} {Bs : Nat → St}
theorem undo144 {a l j ro : Nat} (hro : ro = 21 + 4 * l + 1 ∨ ro = 21 + 4 * l + 2 ∨ ro = 21 + 4 * l + 3) (hj : j < 120) {v : Int32} (hK : mK M a = 1) (kro : mK M ro = 21) (nro : mN M ro = 120) (h2 : mI M a 2 = i32 (j : Nat)) (h3 : mI M a 3 = v) : f_X7_undoLast_144 a ro M = some ((), sI M ro j v) := by
  have nj := nat_i (k := j) (by omega)
  have inj : inB (i32 (j : Int)) 120 = true := by simp (disch := omega) only [↓reduceIte, add_i0, cast_add1, cast_sub1, toNat120, i32_lit, i32_neg, i32_add, i32_sub, i32_mul, i32_nat, i32_le, i32_lt, i32_eq, inB_i, Int.toNat_natCast, mI_sI_eq, mI_sI_ne, mR_sR_eq, mR_sR_ne, mI_sR, mR_sI, mK_sI, mN_sI, mn_sI, mJ_sI, mK_sR, mN_sR, mn_sR, mJ_sR, mI_wI, mR_wI, mK_wI, mN_wI, mn_wI, mJ_wI, ↓bnd_of, ↓bndX_r, ↓bndX_l, ↓ap_nr, bnd_of, bndX_r, bndX_l, if_true, if_false, ite_true, ite_false, not_true_eq_false, not_false_eq_true, Nat.reduceAdd, Nat.reduceMul, Nat.reduceEqDiff, Int.reduceToNat, Int.reduceNeg, Ilt_t, Ilt_f, Ile_t, Ile_f, Ieq_t, Ieq_f, Nlt_t, Nlt_f, Nle_t, Nle_f, Neq_t, Neq_f, or_true, true_or, or_false, false_or, and_true, true_and, and_false, false_and, ne_eq, or_self, and_self, decide_true, decide_false, Bool.false_eq_true]
  unfold f_X7_undoLast_144
  rw [if_pos hK, if_pos kro, h2, nro, if_pos inj, nj, h3, ap_of]
theorem X7_undoLast {nl : Nat} (hnl : nl ≤ 8) (hn1 : 1 ≤ n) (hL : CLay M) (hc : ColLay M 21) (hC : CC M 21 fu A) (hr : mI M 18 1 = i32 A.rc) (hac : ActsC M 18 20 nl n Bs) (hBs : Bs n = A) : ∃ M', f_X7_undoLast 18 (i32 nl) M = some ((), M') ∧ Chg acI M M' ∧ CC M' 21 fu (Bs (n - 1)) ∧ mI M' 18 1 = i32 (Bs (n - 1)).rc ∧ mI M' 18 3 = i32 ((n - 1 : Nat) : Int) := by
  obtain ⟨hn, h3, hacts⟩ := hac
  have act := hacts (n - 1) (by omega)
  rw [show n - 1 + 1 = n by omega, hBs] at act
  have k18 : mK M 18 = 8 := by simp only [hL.o]
  have en : i32 (n : Int) - (1 : Int32) = i32 ((n - 1 : Nat) : Int) := by rw [i32_lit, i32_sub, show (n : Int) - 1 = ((n - 1 : Nat) : Int) by omega]
  have g0 : Chg acI M (sI M 18 3 (i32 ((n - 1 : Nat) : Int))) := (Chg.rf _ M).sI (by unfold acI; omega)
  have g00 : Chg (fun a j => a = 18 ∧ j = 3) M (sI M 18 3 (i32 ((n - 1 : Nat) : Int))) := (Chg.rf _ M).sI ⟨rfl, rfl⟩
  have h34 : mI (sI M 18 3 (i32 ((n - 1 : Nat) : Int))) 18 3 = i32 ((n - 1 : Nat) : Int) := mI_sI_eq
  unfold f_X7_undoLast
  rw [if_pos k18, h3, if_neg (by simp (disch := omega) only [↓reduceIte, add_i0, cast_add1, cast_sub1, toNat120, i32_lit, i32_neg, i32_add, i32_sub, i32_mul, i32_nat, i32_le, i32_lt, i32_eq, inB_i, Int.toNat_natCast, mI_sI_eq, mI_sI_ne, mR_sR_eq, mR_sR_ne, mI_sR, mR_sI, mK_sI, mN_sI, mn_sI, mJ_sI, mK_sR, mN_sR, mn_sR, mJ_sR, mI_wI, mR_wI, mK_wI, mN_wI, mn_wI, mJ_wI, ↓bnd_of, ↓bndX_r, ↓bndX_l, ↓ap_nr, bnd_of, bndX_r, bndX_l, if_true, if_false, ite_true, ite_false, not_true_eq_false, not_false_eq_true, Nat.reduceAdd, Nat.reduceMul, Nat.reduceEqDiff, Int.reduceToNat, Int.reduceNeg, Ilt_t, Ilt_f, Ile_t, Ile_f, Ieq_t, Ieq_f, Nlt_t, Nlt_f, Nle_t, Nle_f, Neq_t, Neq_f, or_true, true_or, or_false, false_or, and_true, true_and, and_false, false_and, ne_eq, or_self, and_self, decide_true, decide_false, Bool.false_eq_true]), if_pos (by simp (disch := omega) only [↓reduceIte, add_i0, cast_add1, cast_sub1, toNat120, i32_lit, i32_neg, i32_add, i32_sub, i32_mul, i32_nat, i32_le, i32_lt, i32_eq, inB_i, Int.toNat_natCast, mI_sI_eq, mI_sI_ne, mR_sR_eq, mR_sR_ne, mI_sR, mR_sI, mK_sI, mN_sI, mn_sI, mJ_sI, mK_sR, mN_sR, mn_sR, mJ_sR, mI_wI, mR_wI, mK_wI, mN_wI, mn_wI, mJ_wI, ↓bnd_of, ↓bndX_r, ↓bndX_l, ↓ap_nr, bnd_of, bndX_r, bndX_l, if_true, if_false, ite_true, ite_false, not_true_eq_false, not_false_eq_true, Nat.reduceAdd, Nat.reduceMul, Nat.reduceEqDiff, Int.reduceToNat, Int.reduceNeg, Ilt_t, Ilt_f, Ile_t, Ile_f, Ieq_t, Ieq_f, Nlt_t, Nlt_f, Nle_t, Nle_f, Neq_t, Neq_f, or_true, true_or, or_false, false_or, and_true, true_and, and_false, false_and, ne_eq, or_self, and_self, decide_true, decide_false, Bool.false_eq_true]), en, ap_of]
  generalize sI M 18 3 (i32 ((n - 1 : Nat) : Int)) = M4 at g0 g00 h34 ⊢
  have hL4 := hL.all g0
  have hc4 := hc.all g0
  have hC4 : CC M4 21 fu A := hC.q2 (fun a j q w => g00.i w)
  have hr4 : mI M4 18 1 = i32 A.rc := by rw [g00.i (by omega)]; exact hr
  have act4 : ActOk M4 nl (mR M4 20 (n - 1)) (Bs (n - 1)) A := by
    rw [g0.r]
    exact act.old (g00.old (fun a j q => by omega))
  have k184 : mK M4 18 = 8 := by simp only [hL4.o]
  have r2 : mR M4 18 2 = 20 := by simp only [hL4.o]
  have k20 : mK M4 20 = 24 := by simp only [hL4.o]
  have n20 : mN M4 20 = 40 := by simp only [hL4.o]
  have ht := hL4.tel
  have nn := nat_i (k := n - 1) (by omega)
  have in40 : inB (i32 ((n - 1 : Nat) : Int)) 40 = true := by clear ht; simp (disch := omega) only [↓reduceIte, add_i0, cast_add1, cast_sub1, toNat120, i32_lit, i32_neg, i32_add, i32_sub, i32_mul, i32_nat, i32_le, i32_lt, i32_eq, inB_i, Int.toNat_natCast, mI_sI_eq, mI_sI_ne, mR_sR_eq, mR_sR_ne, mI_sR, mR_sI, mK_sI, mN_sI, mn_sI, mJ_sI, mK_sR, mN_sR, mn_sR, mJ_sR, mI_wI, mR_wI, mK_wI, mN_wI, mn_wI, mJ_wI, ↓bnd_of, ↓bndX_r, ↓bndX_l, ↓ap_nr, bnd_of, bndX_r, bndX_l, if_true, if_false, ite_true, ite_false, not_true_eq_false, not_false_eq_true, Nat.reduceAdd, Nat.reduceMul, Nat.reduceEqDiff, Int.reduceToNat, Int.reduceNeg, Ilt_t, Ilt_f, Ile_t, Ile_f, Ieq_t, Ieq_f, Nlt_t, Nlt_f, Nle_t, Nle_f, Neq_t, Neq_f, or_true, true_or, or_false, false_or, and_true, true_and, and_false, false_and, ne_eq, or_self, and_self, decide_true, decide_false, Bool.false_eq_true]
  rw [if_pos k184, r2, if_pos k20, h34, n20, if_pos in40, nn]
  clear act hacts
  generalize mR M4 20 (n - 1) = a at act4 ⊢
  generalize Bs (n - 1) = B at act4 ⊢
  obtain ⟨a1, a2, a3, hB, a5⟩ := act4
  rw [if_neg (by omega), if_pos a1]
  have fin : ∀ M' : Mem, Chg bnI M4 M' → Chg acI M M' ∧ mI M' 18 3 = i32 ((n - 1 : Nat) : Int) := fun M' g => ⟨g0.tr (g.mono (fun x j q => by unfold bnI at q; unfold acI; omega)), by rw [g.i (by unfold bnI; omega)]; exact h34⟩
  rcases a5 with ⟨q0, k, q3, hk, hE⟩ | ⟨q0, q1, q2, hp, hrow⟩ | ⟨q0, l, j, v, hl, hj, q1, q2, q3, hE⟩ | ⟨q0, l, j, v, hl, hj, q1, q2, q3, hE⟩ | ⟨q0, l, j, v, hl, hj, q1, q2, q3, hE⟩
  · have hrc := hC.1.2.2.2.2
    obtain ⟨M', e, g, w1, w2⟩ := X7_undo51 (fu := fu) (a := a) (nl := nl) (k0 := k) (by omega) hnl (by omega) k 0 FUEL M4 A (by omega) hk (by unfold FUEL; omega) hL4 hc4 hC4 hr4 a1 q3
    have f := fin M' (g.mono (fun x j q => by unfold ctI at q; unfold bnI; omega))
    refine ⟨M', ?_, f.1, w1.eqv hE hB, by rw [w2, hE.1], f.2⟩
    rw [q0, if_pos (by rfl)]
    exact e
  · obtain ⟨M', e, g, w1, w2⟩ := X7_bring (fu := fu) (r := mR M4 a 4) (nl := nl) (by omega) hnl hB hp hL4 hc4 hC4 hr4 hrow
    have f := fin M' g
    refine ⟨M', ?_, f.1, w1, w2, f.2⟩
    rw [q0, if_neg (by decide), if_pos (by rfl), if_neg (by omega), bx e]
  · have hl8 : l < 8 := by omega
    have hz := hC.1.2.2.2.1 l
    have hca := hc4.at21 hl8
    have nl' := nat_i (k := l) (by omega)
    have in8 : inB (i32 (l : Int)) 8 = true := by clear hca ht; simp (disch := omega) only [↓reduceIte, add_i0, cast_add1, cast_sub1, toNat120, i32_lit, i32_neg, i32_add, i32_sub, i32_mul, i32_nat, i32_le, i32_lt, i32_eq, inB_i, Int.toNat_natCast, mI_sI_eq, mI_sI_ne, mR_sR_eq, mR_sR_ne, mI_sR, mR_sI, mK_sI, mN_sI, mn_sI, mJ_sI, mK_sR, mN_sR, mn_sR, mJ_sR, mI_wI, mR_wI, mK_wI, mN_wI, mn_wI, mJ_wI, ↓bnd_of, ↓bndX_r, ↓bndX_l, ↓ap_nr, bnd_of, bndX_r, bndX_l, if_true, if_false, ite_true, ite_false, not_true_eq_false, not_false_eq_true, Nat.reduceAdd, Nat.reduceMul, Nat.reduceEqDiff, Int.reduceToNat, Int.reduceNeg, Ilt_t, Ilt_f, Ile_t, Ile_f, Ieq_t, Ieq_f, Nlt_t, Nlt_f, Nle_t, Nle_f, Neq_t, Neq_f, or_true, true_or, or_false, false_or, and_true, true_and, and_false, false_and, ne_eq, or_self, and_self, decide_true, decide_false, Bool.false_eq_true]
    have ev : v = B.vl l j := by
      have := ((hE.2 l hl8).2 j hj).2.2
      rw [← this]
      exact (if_pos ⟨rfl, rfl⟩).symm
    have bv := St.b hB l j
    have e := undo144 (M := M4) (a := a) (l := l) (j := j) (ro := 21 + 4 * l + 3) (by omega) (by omega) a1 hca.o.2.2.2.2.2.2.1 hca.o.2.2.2.2.2.2.2.2.2.1 q2 q3
    have g : Chg bnI M4 (sI M4 (21 + 4 * l + 3) j (i32 v)) := (Chg.rf _ M4).sI (by unfold bnI; omega)
    have f := fin _ g
    refine ⟨_, ?_, f.1, (CC.wVl hC4 hl8 (by omega) (by omega)).eqv hE hB, by rw [mI_sI_ne (by omega), hr4, ← hE.1]; rfl, f.2⟩
    rw [q0, if_neg (by decide), if_neg (by decide), ht.o.2.2.2.2.2.1, if_pos ht.o.2.2.2.2.2.2.1, ht.o.2.2.2.2.2.2.2, q1, if_pos in8, if_pos (by rfl), nl', hca.o.2.2.2.2.2.2.2.2.2.2, if_pos hca.o.1, hca.o.2.2.2.1, e]
  · have hl8 : l < 8 := by omega
    have hz := hC.1.2.2.2.1 l
    have hca := hc4.at21 hl8
    have nl' := nat_i (k := l) (by omega)
    have in8 : inB (i32 (l : Int)) 8 = true := by clear hca ht; simp (disch := omega) only [↓reduceIte, add_i0, cast_add1, cast_sub1, toNat120, i32_lit, i32_neg, i32_add, i32_sub, i32_mul, i32_nat, i32_le, i32_lt, i32_eq, inB_i, Int.toNat_natCast, mI_sI_eq, mI_sI_ne, mR_sR_eq, mR_sR_ne, mI_sR, mR_sI, mK_sI, mN_sI, mn_sI, mJ_sI, mK_sR, mN_sR, mn_sR, mJ_sR, mI_wI, mR_wI, mK_wI, mN_wI, mn_wI, mJ_wI, ↓bnd_of, ↓bndX_r, ↓bndX_l, ↓ap_nr, bnd_of, bndX_r, bndX_l, if_true, if_false, ite_true, ite_false, not_true_eq_false, not_false_eq_true, Nat.reduceAdd, Nat.reduceMul, Nat.reduceEqDiff, Int.reduceToNat, Int.reduceNeg, Ilt_t, Ilt_f, Ile_t, Ile_f, Ieq_t, Ieq_f, Nlt_t, Nlt_f, Nle_t, Nle_f, Neq_t, Neq_f, or_true, true_or, or_false, false_or, and_true, true_and, and_false, false_and, ne_eq, or_self, and_self, decide_true, decide_false, Bool.false_eq_true]
    have ev : v = B.rp l j := by
      have := ((hE.2 l hl8).2 j hj).1
      rw [← this]
      exact (if_pos ⟨rfl, rfl⟩).symm
    have bv := St.b hB l j
    have e := undo144 (M := M4) (a := a) (l := l) (j := j) (ro := 21 + 4 * l + 1) (by omega) (by omega) a1 hca.o.2.2.2.2.1 hca.o.2.2.2.2.2.2.2.1 q2 q3
    have g : Chg bnI M4 (sI M4 (21 + 4 * l + 1) j (i32 v)) := (Chg.rf _ M4).sI (by unfold bnI; omega)
    have f := fin _ g
    refine ⟨_, ?_, f.1, (CC.wRp hC4 hl8 (by omega) (by omega)).eqv hE hB, by rw [mI_sI_ne (by omega), hr4, ← hE.1]; rfl, f.2⟩
    rw [q0, if_neg (by decide), if_neg (by decide), ht.o.2.2.2.2.2.1, if_pos ht.o.2.2.2.2.2.2.1, ht.o.2.2.2.2.2.2.2, q1, if_pos in8, if_neg (by decide), if_pos (by rfl), nl', hca.o.2.2.2.2.2.2.2.2.2.2, if_pos hca.o.1, hca.o.2.1, e]
  · have hl8 : l < 8 := by omega
    have hz := hC.1.2.2.2.1 l
    have hca := hc4.at21 hl8
    have nl' := nat_i (k := l) (by omega)
    have in8 : inB (i32 (l : Int)) 8 = true := by clear hca ht; simp (disch := omega) only [↓reduceIte, add_i0, cast_add1, cast_sub1, toNat120, i32_lit, i32_neg, i32_add, i32_sub, i32_mul, i32_nat, i32_le, i32_lt, i32_eq, inB_i, Int.toNat_natCast, mI_sI_eq, mI_sI_ne, mR_sR_eq, mR_sR_ne, mI_sR, mR_sI, mK_sI, mN_sI, mn_sI, mJ_sI, mK_sR, mN_sR, mn_sR, mJ_sR, mI_wI, mR_wI, mK_wI, mN_wI, mn_wI, mJ_wI, ↓bnd_of, ↓bndX_r, ↓bndX_l, ↓ap_nr, bnd_of, bndX_r, bndX_l, if_true, if_false, ite_true, ite_false, not_true_eq_false, not_false_eq_true, Nat.reduceAdd, Nat.reduceMul, Nat.reduceEqDiff, Int.reduceToNat, Int.reduceNeg, Ilt_t, Ilt_f, Ile_t, Ile_f, Ieq_t, Ieq_f, Nlt_t, Nlt_f, Nle_t, Nle_f, Neq_t, Neq_f, or_true, true_or, or_false, false_or, and_true, true_and, and_false, false_and, ne_eq, or_self, and_self, decide_true, decide_false, Bool.false_eq_true]
    have ev : v = B.df l j := by
      have := ((hE.2 l hl8).2 j hj).2.1
      rw [← this]
      exact (if_pos ⟨rfl, rfl⟩).symm
    have bv := St.b hB l j
    have e := undo144 (M := M4) (a := a) (l := l) (j := j) (ro := 21 + 4 * l + 2) (by omega) (by omega) a1 hca.o.2.2.2.2.2.1 hca.o.2.2.2.2.2.2.2.2.1 q2 q3
    have g : Chg bnI M4 (sI M4 (21 + 4 * l + 2) j (i32 v)) := (Chg.rf _ M4).sI (by unfold bnI; omega)
    have f := fin _ g
    refine ⟨_, ?_, f.1, (CC.wDf hC4 hl8 (by omega) (by omega)).eqv hE hB, by rw [mI_sI_ne (by omega), hr4, ← hE.1]; rfl, f.2⟩
    rw [q0, if_neg (by decide), if_neg (by decide), ht.o.2.2.2.2.2.1, if_pos ht.o.2.2.2.2.2.2.1, ht.o.2.2.2.2.2.2.2, q1, if_pos in8, if_neg (by decide), if_neg (by decide), nl', hca.o.2.2.2.2.2.2.2.2.2.2, if_pos hca.o.1, hca.o.2.2.1, e]
end
