/-! HARMLESS in the reference: the count -/
section
variable {M : Mem} {S : Sc} {A : St}
theorem RW.mono {st : Int × Int} {B B2 : Int} (h : RW M st B) (hb : B ≤ B2) : RW M st B2 := ⟨h.1, h.2.1, h.2.2.1, Int.le_trans h.2.2.2.1 hb, h.2.2.2.2.1, h.2.2.2.2.2⟩
theorem X12_thD (hW : S.wf) (hk : chkOk S A) (g20 : Nat → Int32 → Mem → Option (Unit × Mem)) (g39 : Nat → Int32 → Int32 → Int32 → Mem → Option (Unit × Mem)) {l j : Nat} (hl : l < S.nl) (hj : j < A.sz l) : ∀ (k v n : Nat) (M : Mem) (st : Int × Int) (B : Int), (v + k : Int) = S.sd (S.fo l) + 1 → k < n → RV M S A → RW M st B → B + k ≤ 1000000 → ∃ M', f_X12_tellHarmless_92 g20 g39 n 134 (i32 l) (i32 (S.fo l)) (i32 j) (i32 v) M = g39 134 (i32 l) (i32 (S.fo l)) (i32 (j + 1 : Nat)) M' ∧ Scr M M' ∧ RW M' (hD S A l j k v st) (B + k) := by
  have hS := hW.1
  have hnl := hS.2.1
  have hfo := Sc.fo_lt hS hl
  have b4 := Sc.sd_b hS (S.fo l)
  intro k
  induction k with
  | zero =>
    intro v n M st B hv hn hV hw hB
    obtain ⟨n, rfl⟩ : ∃ m, n = m + 1 := ⟨n - 1, by omega⟩
    have hL := hV.1
    have cr := hV.2.1.2.2.2.2.2.1
    have bz := St.b hV.2.2.1 l j
    refine ⟨M, ?_, Scr.rf M, RW.mono hw (by omega)⟩
    simp (disch := omega) only [↓reduceIte, add_i0, cast_add1, cast_sub1, toNat120, i32_lit, i32_neg, i32_add, i32_sub, i32_mul, i32_nat, i32_le, i32_lt, i32_eq, inB_i, Int.toNat_natCast, mI_sI_eq, mI_sI_ne, mR_sR_eq, mR_sR_ne, mI_sR, mR_sI, mK_sI, mN_sI, mn_sI, mJ_sI, mK_sR, mN_sR, mn_sR, mJ_sR, mI_wI, mR_wI, mK_wI, mN_wI, mn_wI, mJ_wI, ↓bnd_of, ↓bndX_r, ↓bndX_l, ↓ap_of, bnd_of, bndX_r, bndX_l, if_true, if_false, ite_true, ite_false, not_true_eq_false, not_false_eq_true, Nat.reduceAdd, Nat.reduceMul, Nat.reduceEqDiff, Int.reduceToNat, Int.reduceNeg, Ilt_t, Ilt_f, Ile_t, Ile_f, Ieq_t, Ieq_f, Nlt_t, Nlt_f, Nle_t, Nle_f, Neq_t, Neq_f, or_true, true_or, or_false, false_or, and_true, true_and, and_false, false_and, ne_eq, or_self, and_self, decide_true, decide_false, Bool.false_eq_true, f_X12_tellHarmless_92, hL.o, cr]
    try rfl
  | succ k ih =>
    intro v n M st B hv hn hV hw hB
    obtain ⟨n, rfl⟩ : ∃ m, n = m + 1 := ⟨n - 1, by omega⟩
    have hL := hV.1
    have cr := hV.2.1.2.2.2.2.2.1
    have bz := St.b hV.2.2.1 l j
    have e1 := X12_defAt hL hV.2.2 (l := l) (j := j) (by omega) hj
    by_cases d : (v : Int) = A.df l j
    · have hb : harmDB S A l j v = false := by unfold harmDB; simp [d]
      have e2 : hD S A l j (k + 1) v st = hD S A l j k (v + 1) st := by
        show hD S A l j k (v + 1) (hst (harmDB S A l j v) _ st) = _
        rw [hb]
        rfl
      obtain ⟨M2, e3, g2, hw2⟩ := ih (v + 1) n M st B (by omega) (by omega) hV hw (by omega)
      refine ⟨M2, ?_, g2, ?_⟩
      · rw [← e3]
        simp (disch := omega) only [↓reduceIte, add_i0, cast_add1, cast_sub1, toNat120, i32_lit, i32_neg, i32_add, i32_sub, i32_mul, i32_nat, i32_le, i32_lt, i32_eq, inB_i, Int.toNat_natCast, mI_sI_eq, mI_sI_ne, mR_sR_eq, mR_sR_ne, mI_sR, mR_sI, mK_sI, mN_sI, mn_sI, mJ_sI, mK_sR, mN_sR, mn_sR, mJ_sR, mI_wI, mR_wI, mK_wI, mN_wI, mn_wI, mJ_wI, ↓bnd_of, ↓bndX_r, ↓bndX_l, ↓ap_of, bnd_of, bndX_r, bndX_l, if_true, if_false, ite_true, ite_false, not_true_eq_false, not_false_eq_true, Nat.reduceAdd, Nat.reduceMul, Nat.reduceEqDiff, Int.reduceToNat, Int.reduceNeg, Ilt_t, Ilt_f, Ile_t, Ile_f, Ieq_t, Ieq_f, Nlt_t, Nlt_f, Nle_t, Nle_f, Neq_t, Neq_f, or_true, true_or, or_false, false_or, and_true, true_and, and_false, false_and, ne_eq, or_self, and_self, decide_true, decide_false, Bool.false_eq_true, f_X12_tellHarmless_92, f_X12_tellHarmless_123, hL.o, cr, ↓bx e1]
      · rw [e2]
        exact RW.mono hw2 (by omega)
    · obtain ⟨M1, e2, g, hw1⟩ := X12_tryD hW hV hk hl hj v (by omega) (by omega) d (by omega) hw
      obtain ⟨M2, e3, g2, hw2⟩ := ih (v + 1) n M1 _ (B + 1) (by omega) (by omega) (hV.scr hS g) hw1 (by omega)
      refine ⟨M2, ?_, g.tr g2, ?_⟩
      · rw [← e3]
        simp (disch := omega) only [↓reduceIte, add_i0, cast_add1, cast_sub1, toNat120, i32_lit, i32_neg, i32_add, i32_sub, i32_mul, i32_nat, i32_le, i32_lt, i32_eq, inB_i, Int.toNat_natCast, mI_sI_eq, mI_sI_ne, mR_sR_eq, mR_sR_ne, mI_sR, mR_sI, mK_sI, mN_sI, mn_sI, mJ_sI, mK_sR, mN_sR, mn_sR, mJ_sR, mI_wI, mR_wI, mK_wI, mN_wI, mn_wI, mJ_wI, ↓bnd_of, ↓bndX_r, ↓bndX_l, ↓ap_of, bnd_of, bndX_r, bndX_l, if_true, if_false, ite_true, ite_false, not_true_eq_false, not_false_eq_true, Nat.reduceAdd, Nat.reduceMul, Nat.reduceEqDiff, Int.reduceToNat, Int.reduceNeg, Ilt_t, Ilt_f, Ile_t, Ile_f, Ieq_t, Ieq_f, Nlt_t, Nlt_f, Nle_t, Nle_f, Neq_t, Neq_f, or_true, true_or, or_false, false_or, and_true, true_and, and_false, false_and, ne_eq, or_self, and_self, decide_true, decide_false, Bool.false_eq_true, f_X12_tellHarmless_92, f_X12_tellHarmless_123, hL.o, cr, ↓bx e1, e2]
      · exact RW.mono hw2 (by omega)
theorem X12_thR (hW : S.wf) (hk : chkOk S A) (g20 : Nat → Int32 → Mem → Option (Unit × Mem)) (g39 : Nat → Int32 → Int32 → Int32 → Mem → Option (Unit × Mem)) {l j : Nat} (hl : l < S.nl) (hj : j < A.sz l) : ∀ (k v n : Nat) (M : Mem) (st : Int × Int) (B : Int), (v + k : Int) = S.sr (S.fo l) + 1 → k < n → RV M S A → RW M st B → B + k ≤ 1000000 → ∃ M', f_X12_tellHarmless_52 g20 g39 n 134 (i32 l) (i32 (S.fo l)) (i32 j) (i32 v) M = f_X12_tellHarmless_92 g20 g39 FUEL 134 (i32 l) (i32 (S.fo l)) (i32 j) (i32 (0 : Nat)) M' ∧ Scr M M' ∧ RW M' (hR S A l j k v st) (B + k) := by
  have hS := hW.1
  have hnl := hS.2.1
  have hfo := Sc.fo_lt hS hl
  have b4 := Sc.sr_b hS (S.fo l)
  intro k
  induction k with
  | zero =>
    intro v n M st B hv hn hV hw hB
    obtain ⟨n, rfl⟩ : ∃ m, n = m + 1 := ⟨n - 1, by omega⟩
    have hL := hV.1
    have cr := hV.2.1.2.2.2.2.2.2.1
    have bz := St.b hV.2.2.1 l j
    refine ⟨M, ?_, Scr.rf M, RW.mono hw (by omega)⟩
    simp (disch := omega) only [↓reduceIte, add_i0, cast_add1, cast_sub1, toNat120, i32_lit, i32_neg, i32_add, i32_sub, i32_mul, i32_nat, i32_le, i32_lt, i32_eq, inB_i, Int.toNat_natCast, mI_sI_eq, mI_sI_ne, mR_sR_eq, mR_sR_ne, mI_sR, mR_sI, mK_sI, mN_sI, mn_sI, mJ_sI, mK_sR, mN_sR, mn_sR, mJ_sR, mI_wI, mR_wI, mK_wI, mN_wI, mn_wI, mJ_wI, ↓bnd_of, ↓bndX_r, ↓bndX_l, ↓ap_of, bnd_of, bndX_r, bndX_l, if_true, if_false, ite_true, ite_false, not_true_eq_false, not_false_eq_true, Nat.reduceAdd, Nat.reduceMul, Nat.reduceEqDiff, Int.reduceToNat, Int.reduceNeg, Ilt_t, Ilt_f, Ile_t, Ile_f, Ieq_t, Ieq_f, Nlt_t, Nlt_f, Nle_t, Nle_f, Neq_t, Neq_f, or_true, true_or, or_false, false_or, and_true, true_and, and_false, false_and, ne_eq, or_self, and_self, decide_true, decide_false, Bool.false_eq_true, f_X12_tellHarmless_52, hL.o, cr]
    try rfl
  | succ k ih =>
    intro v n M st B hv hn hV hw hB
    obtain ⟨n, rfl⟩ : ∃ m, n = m + 1 := ⟨n - 1, by omega⟩
    have hL := hV.1
    have cr := hV.2.1.2.2.2.2.2.2.1
    have bz := St.b hV.2.2.1 l j
    have e1 := X12_repAt hL hV.2.2 (l := l) (j := j) (by omega) hj
    by_cases d : (v : Int) = A.rp l j
    · have hb : harmRB S A l j v = false := by unfold harmRB; simp [d]
      have e2 : hR S A l j (k + 1) v st = hR S A l j k (v + 1) st := by
        show hR S A l j k (v + 1) (hst (harmRB S A l j v) _ st) = _
        rw [hb]
        rfl
      obtain ⟨M2, e3, g2, hw2⟩ := ih (v + 1) n M st B (by omega) (by omega) hV hw (by omega)
      refine ⟨M2, ?_, g2, ?_⟩
      · rw [← e3]
        simp (disch := omega) only [↓reduceIte, add_i0, cast_add1, cast_sub1, toNat120, i32_lit, i32_neg, i32_add, i32_sub, i32_mul, i32_nat, i32_le, i32_lt, i32_eq, inB_i, Int.toNat_natCast, mI_sI_eq, mI_sI_ne, mR_sR_eq, mR_sR_ne, mI_sR, mR_sI, mK_sI, mN_sI, mn_sI, mJ_sI, mK_sR, mN_sR, mn_sR, mJ_sR, mI_wI, mR_wI, mK_wI, mN_wI, mn_wI, mJ_wI, ↓bnd_of, ↓bndX_r, ↓bndX_l, ↓ap_of, bnd_of, bndX_r, bndX_l, if_true, if_false, ite_true, ite_false, not_true_eq_false, not_false_eq_true, Nat.reduceAdd, Nat.reduceMul, Nat.reduceEqDiff, Int.reduceToNat, Int.reduceNeg, Ilt_t, Ilt_f, Ile_t, Ile_f, Ieq_t, Ieq_f, Nlt_t, Nlt_f, Nle_t, Nle_f, Neq_t, Neq_f, or_true, true_or, or_false, false_or, and_true, true_and, and_false, false_and, ne_eq, or_self, and_self, decide_true, decide_false, Bool.false_eq_true, f_X12_tellHarmless_52, f_X12_tellHarmless_83, hL.o, cr, ↓bx e1]
      · rw [e2]
        exact RW.mono hw2 (by omega)
    · obtain ⟨M1, e2, g, hw1⟩ := X12_tryR hW hV hk hl hj v (by omega) (by omega) d (by omega) hw
      obtain ⟨M2, e3, g2, hw2⟩ := ih (v + 1) n M1 _ (B + 1) (by omega) (by omega) (hV.scr hS g) hw1 (by omega)
      refine ⟨M2, ?_, g.tr g2, ?_⟩
      · rw [← e3]
        simp (disch := omega) only [↓reduceIte, add_i0, cast_add1, cast_sub1, toNat120, i32_lit, i32_neg, i32_add, i32_sub, i32_mul, i32_nat, i32_le, i32_lt, i32_eq, inB_i, Int.toNat_natCast, mI_sI_eq, mI_sI_ne, mR_sR_eq, mR_sR_ne, mI_sR, mR_sI, mK_sI, mN_sI, mn_sI, mJ_sI, mK_sR, mN_sR, mn_sR, mJ_sR, mI_wI, mR_wI, mK_wI, mN_wI, mn_wI, mJ_wI, ↓bnd_of, ↓bndX_r, ↓bndX_l, ↓ap_of, bnd_of, bndX_r, bndX_l, if_true, if_false, ite_true, ite_false, not_true_eq_false, not_false_eq_true, Nat.reduceAdd, Nat.reduceMul, Nat.reduceEqDiff, Int.reduceToNat, Int.reduceNeg, Ilt_t, Ilt_f, Ile_t, Ile_f, Ieq_t, Ieq_f, Nlt_t, Nlt_f, Nle_t, Nle_f, Neq_t, Neq_f, or_true, true_or, or_false, false_or, and_true, true_and, and_false, false_and, ne_eq, or_self, and_self, decide_true, decide_false, Bool.false_eq_true, f_X12_tellHarmless_52, f_X12_tellHarmless_83, hL.o, cr, ↓bx e1, e2]
      · exact RW.mono hw2 (by omega)
theorem X12_thE (hW : S.wf) (hk : chkOk S A) (g20 : Nat → Int32 → Mem → Option (Unit × Mem)) {l : Nat} (hl : l < S.nl) : ∀ (k j n : Nat) (M : Mem) (st : Int × Int) (B : Int), j + k = A.sz l → k < n → RV M S A → RW M st B → B + 20 * k ≤ 1000000 → ∃ M', f_X12_tellHarmless_39 g20 n 134 (i32 l) (i32 (S.fo l)) (i32 j) M = g20 134 (i32 (l + 1 : Nat)) M' ∧ Scr M M' ∧ RW M' (hE S A l k j st) (B + 20 * k) := by
  have hS := hW.1
  have hnl := hS.2.1
  have b3 := Sc.sr_b hS (S.fo l)
  have b4 := Sc.sd_b hS (S.fo l)
  intro k
  induction k with
  | zero =>
    intro j n M st B hj hn hV hw hB
    obtain ⟨n, rfl⟩ : ∃ m, n = m + 1 := ⟨n - 1, by omega⟩
    have hL := hV.1
    have a1 := hV.2.2.2.1 l (by omega)
    have bz := St.b hV.2.2.1 l j
    refine ⟨M, ?_, Scr.rf M, RW.mono hw (by omega)⟩
    simp (disch := omega) only [↓reduceIte, add_i0, cast_add1, cast_sub1, toNat120, i32_lit, i32_neg, i32_add, i32_sub, i32_mul, i32_nat, i32_le, i32_lt, i32_eq, inB_i, Int.toNat_natCast, mI_sI_eq, mI_sI_ne, mR_sR_eq, mR_sR_ne, mI_sR, mR_sI, mK_sI, mN_sI, mn_sI, mJ_sI, mK_sR, mN_sR, mn_sR, mJ_sR, mI_wI, mR_wI, mK_wI, mN_wI, mn_wI, mJ_wI, ↓bnd_of, ↓bndX_r, ↓bndX_l, ↓ap_of, bnd_of, bndX_r, bndX_l, if_true, if_false, ite_true, ite_false, not_true_eq_false, not_false_eq_true, Nat.reduceAdd, Nat.reduceMul, Nat.reduceEqDiff, Int.reduceToNat, Int.reduceNeg, Ilt_t, Ilt_f, Ile_t, Ile_f, Ieq_t, Ieq_f, Nlt_t, Nlt_f, Nle_t, Nle_f, Neq_t, Neq_f, or_true, true_or, or_false, false_or, and_true, true_and, and_false, false_and, ne_eq, or_self, and_self, decide_true, decide_false, Bool.false_eq_true, f_X12_tellHarmless_39, hL.o, a1]
  | succ k ih =>
    intro j n M st B hj hn hV hw hB
    obtain ⟨n, rfl⟩ : ∃ m, n = m + 1 := ⟨n - 1, by omega⟩
    obtain ⟨M1, e1, g1, hw1⟩ := X12_thR hW hk g20 (f_X12_tellHarmless_39 g20 n) hl (show j < A.sz l by omega) (S.sr (S.fo l) + 1).toNat 0 FUEL M st B (by omega) (by unfold FUEL; omega) hV hw (by omega)
    obtain ⟨M2, e2, g2, hw2⟩ := X12_thD hW hk g20 (f_X12_tellHarmless_39 g20 n) hl (show j < A.sz l by omega) (S.sd (S.fo l) + 1).toNat 0 FUEL M1 _ _ (by omega) (by unfold FUEL; omega) (hV.scr hS g1) hw1 (by omega)
    have hw2' : RW M2 (hD S A l j (S.sd (S.fo l) + 1).toNat 0 (hR S A l j (S.sr (S.fo l) + 1).toNat 0 st)) (B + 20) := by
      exact RW.mono hw2 (by omega)
    obtain ⟨M3, e3, g3, hw3⟩ := ih (j + 1) n M2 _ (B + 20) (by omega) (by omega) (hV.scr hS (g1.tr g2)) hw2' (by omega)
    refine ⟨M3, ?_, g1.tr (g2.tr g3), ?_⟩
    · rw [← e3, ← e2, ← e1]
      have hL := hV.1
      have a1 := hV.2.2.2.1 l (by omega)
      have bz := St.b hV.2.2.1 l j
      simp (disch := omega) only [↓reduceIte, add_i0, cast_add1, cast_sub1, toNat120, i32_lit, i32_neg, i32_add, i32_sub, i32_mul, i32_nat, i32_le, i32_lt, i32_eq, inB_i, Int.toNat_natCast, mI_sI_eq, mI_sI_ne, mR_sR_eq, mR_sR_ne, mI_sR, mR_sI, mK_sI, mN_sI, mn_sI, mJ_sI, mK_sR, mN_sR, mn_sR, mJ_sR, mI_wI, mR_wI, mK_wI, mN_wI, mn_wI, mJ_wI, ↓bnd_of, ↓bndX_r, ↓bndX_l, ↓ap_of, bnd_of, bndX_r, bndX_l, if_true, if_false, ite_true, ite_false, not_true_eq_false, not_false_eq_true, Nat.reduceAdd, Nat.reduceMul, Nat.reduceEqDiff, Int.reduceToNat, Int.reduceNeg, Ilt_t, Ilt_f, Ile_t, Ile_f, Ieq_t, Ieq_f, Nlt_t, Nlt_f, Nle_t, Nle_f, Neq_t, Neq_f, or_true, true_or, or_false, false_or, and_true, true_and, and_false, false_and, ne_eq, or_self, and_self, decide_true, decide_false, Bool.false_eq_true, f_X12_tellHarmless_39, hL.o, a1]
      rfl
    · exact RW.mono hw3 (by omega)
theorem X12_thA (hW : S.wf) (hk : chkOk S A) : ∀ (k l n : Nat) (M : Mem) (st : Int × Int) (B : Int), l + k = S.nl → k < n → RV M S A → RW M st B → B + 2400 * k ≤ 1000000 → ∃ M', f_X12_tellHarmless_20 n 134 (i32 l) M = some ((), M') ∧ Scr M M' ∧ RW M' (hA S A k l st) (B + 2400 * k) := by
  have hS := hW.1
  have hnl := hS.2.1
  intro k
  induction k with
  | zero =>
    intro l n M st B hj hn hV hw hB
    obtain ⟨n, rfl⟩ : ∃ m, n = m + 1 := ⟨n - 1, by omega⟩
    have hL := hV.1
    have c1 := hV.2.1.2.1
    refine ⟨M, ?_, Scr.rf M, RW.mono hw (by omega)⟩
    simp (disch := omega) only [↓reduceIte, add_i0, cast_add1, cast_sub1, toNat120, i32_lit, i32_neg, i32_add, i32_sub, i32_mul, i32_nat, i32_le, i32_lt, i32_eq, inB_i, Int.toNat_natCast, mI_sI_eq, mI_sI_ne, mR_sR_eq, mR_sR_ne, mI_sR, mR_sI, mK_sI, mN_sI, mn_sI, mJ_sI, mK_sR, mN_sR, mn_sR, mJ_sR, mI_wI, mR_wI, mK_wI, mN_wI, mn_wI, mJ_wI, ↓bnd_of, ↓bndX_r, ↓bndX_l, ↓ap_of, bnd_of, bndX_r, bndX_l, if_true, if_false, ite_true, ite_false, not_true_eq_false, not_false_eq_true, Nat.reduceAdd, Nat.reduceMul, Nat.reduceEqDiff, Int.reduceToNat, Int.reduceNeg, Ilt_t, Ilt_f, Ile_t, Ile_f, Ieq_t, Ieq_f, Nlt_t, Nlt_f, Nle_t, Nle_f, Neq_t, Neq_f, or_true, true_or, or_false, false_or, and_true, true_and, and_false, false_and, ne_eq, or_self, and_self, decide_true, decide_false, Bool.false_eq_true, f_X12_tellHarmless_20, hL.o, c1]
  | succ k ih =>
    intro l n M st B hj hn hV hw hB
    obtain ⟨n, rfl⟩ : ∃ m, n = m + 1 := ⟨n - 1, by omega⟩
    have hL := hV.1
    have c1 := hV.2.1.2.1
    have cf := hV.2.1.2.2.2.2.2.2.2.2.2.2
    have bz := St.b hV.2.2.1 l 0
    obtain ⟨M1, e1, g1, hw1⟩ := X12_thE hW hk (f_X12_tellHarmless_20 n) (show l < S.nl by omega) (A.sz l) 0 FUEL M st B (by omega) (by unfold FUEL; omega) hV hw (by omega)
    have hw1' : RW M1 (hE S A l (A.sz l) 0 st) (B + 2400) := by
      exact RW.mono hw1 (by omega)
    obtain ⟨M2, e2, g2, hw2⟩ := ih (l + 1) n M1 _ (B + 2400) (by omega) (by omega) (hV.scr hS g1) hw1' (by omega)
    refine ⟨M2, ?_, g1.tr g2, ?_⟩
    · rw [← e2, ← e1]
      simp (disch := omega) only [↓reduceIte, add_i0, cast_add1, cast_sub1, toNat120, i32_lit, i32_neg, i32_add, i32_sub, i32_mul, i32_nat, i32_le, i32_lt, i32_eq, inB_i, Int.toNat_natCast, mI_sI_eq, mI_sI_ne, mR_sR_eq, mR_sR_ne, mI_sR, mR_sI, mK_sI, mN_sI, mn_sI, mJ_sI, mK_sR, mN_sR, mn_sR, mJ_sR, mI_wI, mR_wI, mK_wI, mN_wI, mn_wI, mJ_wI, ↓bnd_of, ↓bndX_r, ↓bndX_l, ↓ap_of, bnd_of, bndX_r, bndX_l, if_true, if_false, ite_true, ite_false, not_true_eq_false, not_false_eq_true, Nat.reduceAdd, Nat.reduceMul, Nat.reduceEqDiff, Int.reduceToNat, Int.reduceNeg, Ilt_t, Ilt_f, Ile_t, Ile_f, Ieq_t, Ieq_f, Nlt_t, Nlt_f, Nle_t, Nle_f, Neq_t, Neq_f, or_true, true_or, or_false, false_or, and_true, true_and, and_false, false_and, ne_eq, or_self, and_self, decide_true, decide_false, Bool.false_eq_true, f_X12_tellHarmless_20, hL.o, c1, cf]
      rfl
    · exact RW.mono hw2 (by omega)
theorem X12_tellHarmless (hW : S.wf) (hV : RV M S A) (hc0 : mI M 134 2 = i32 0) : ∃ M', f_X12_tellHarmless 134 M = some ((), M') ∧ Scr M M' ∧ mI M' 134 36 = i32 (harm S A).1 ∧ mI M' 134 37 = i32 (harm S A).2 ∧ mI M' 134 2 = i32 0 := by
  have hnl := hW.1.2.1
  have hb := chkF_b S A hV.2.2.1 S.nl 0
  have hb2 : 0 ≤ (chk S A).1 ∧ (chk S A).1 ≤ 5 := ⟨hb.1, hb.2.1⟩
  have hL := hV.1
  have g : Scr M (sI (sI M 134 36 (0 : Int32)) 134 37 (-1 : Int32)) := ((Scr.rf M).sI (by unfold ScI; omega)).sI (by unfold ScI; omega)
  have hV4 := hV.scr hW.1 g
  have e1 := X12_checked hW hV4
  have g6 := wrM_scr (sI (sI M 134 36 (0 : Int32)) 134 37 (-1 : Int32)) (chk S A).2.1 (chk S A).2.2
  have f1 : mI (wrM (sI (sI M 134 36 (0 : Int32)) 134 37 (-1 : Int32)) (chk S A).2.1 (chk S A).2.2) 134 36 = i32 0 := by unfold wrM; simp (disch := omega) only [↓reduceIte, add_i0, cast_add1, cast_sub1, toNat120, i32_lit, i32_neg, i32_add, i32_sub, i32_mul, i32_nat, i32_le, i32_lt, i32_eq, inB_i, Int.toNat_natCast, mI_sI_eq, mI_sI_ne, mR_sR_eq, mR_sR_ne, mI_sR, mR_sI, mK_sI, mN_sI, mn_sI, mJ_sI, mK_sR, mN_sR, mn_sR, mJ_sR, mI_wI, mR_wI, mK_wI, mN_wI, mn_wI, mJ_wI, ↓bnd_of, ↓bndX_r, ↓bndX_l, ↓ap_of, bnd_of, bndX_r, bndX_l, if_true, if_false, ite_true, ite_false, not_true_eq_false, not_false_eq_true, Nat.reduceAdd, Nat.reduceMul, Nat.reduceEqDiff, Int.reduceToNat, Int.reduceNeg, Ilt_t, Ilt_f, Ile_t, Ile_f, Ieq_t, Ieq_f, Nlt_t, Nlt_f, Nle_t, Nle_f, Neq_t, Neq_f, or_true, true_or, or_false, false_or, and_true, true_and, and_false, false_and, ne_eq, or_self, and_self, decide_true, decide_false, Bool.false_eq_true]
  have f2 : mI (wrM (sI (sI M 134 36 (0 : Int32)) 134 37 (-1 : Int32)) (chk S A).2.1 (chk S A).2.2) 134 37 = i32 (-1) := by unfold wrM; simp (disch := omega) only [↓reduceIte, add_i0, cast_add1, cast_sub1, toNat120, i32_lit, i32_neg, i32_add, i32_sub, i32_mul, i32_nat, i32_le, i32_lt, i32_eq, inB_i, Int.toNat_natCast, mI_sI_eq, mI_sI_ne, mR_sR_eq, mR_sR_ne, mI_sR, mR_sI, mK_sI, mN_sI, mn_sI, mJ_sI, mK_sR, mN_sR, mn_sR, mJ_sR, mI_wI, mR_wI, mK_wI, mN_wI, mn_wI, mJ_wI, ↓bnd_of, ↓bndX_r, ↓bndX_l, ↓ap_of, bnd_of, bndX_r, bndX_l, if_true, if_false, ite_true, ite_false, not_true_eq_false, not_false_eq_true, Nat.reduceAdd, Nat.reduceMul, Nat.reduceEqDiff, Int.reduceToNat, Int.reduceNeg, Ilt_t, Ilt_f, Ile_t, Ile_f, Ieq_t, Ieq_f, Nlt_t, Nlt_f, Nle_t, Nle_f, Neq_t, Neq_f, or_true, true_or, or_false, false_or, and_true, true_and, and_false, false_and, ne_eq, or_self, and_self, decide_true, decide_false, Bool.false_eq_true]
  have f3 : mI (wrM (sI (sI M 134 36 (0 : Int32)) 134 37 (-1 : Int32)) (chk S A).2.1 (chk S A).2.2) 134 2 = i32 0 := by unfold wrM; simp (disch := omega) only [↓reduceIte, add_i0, cast_add1, cast_sub1, toNat120, i32_lit, i32_neg, i32_add, i32_sub, i32_mul, i32_nat, i32_le, i32_lt, i32_eq, inB_i, Int.toNat_natCast, mI_sI_eq, mI_sI_ne, mR_sR_eq, mR_sR_ne, mI_sR, mR_sI, mK_sI, mN_sI, mn_sI, mJ_sI, mK_sR, mN_sR, mn_sR, mJ_sR, mI_wI, mR_wI, mK_wI, mN_wI, mn_wI, mJ_wI, ↓bnd_of, ↓bndX_r, ↓bndX_l, ↓ap_of, bnd_of, bndX_r, bndX_l, if_true, if_false, ite_true, ite_false, not_true_eq_false, not_false_eq_true, Nat.reduceAdd, Nat.reduceMul, Nat.reduceEqDiff, Int.reduceToNat, Int.reduceNeg, Ilt_t, Ilt_f, Ile_t, Ile_f, Ieq_t, Ieq_f, Nlt_t, Nlt_f, Nle_t, Nle_f, Neq_t, Neq_f, or_true, true_or, or_false, false_or, and_true, true_and, and_false, false_and, ne_eq, or_self, and_self, decide_true, decide_false, Bool.false_eq_true, hc0]
  by_cases d : (chk S A).1 = 0
  · have hk := (chk_ok S A).mp d
    obtain ⟨M', h1, h2, h3⟩ := X12_thA hW hk S.nl 0 FUEL _ (0, -1) 0 (by omega) (by unfold FUEL; omega) (hV4.scr hW.1 g6) ⟨f1, f2, by simp, by simp, by simp, f3⟩ (by omega)
    have e : harm S A = hA S A S.nl 0 (0, -1) := by unfold harm; rw [if_pos d]
    rw [e]
    refine ⟨M', ?_, g.tr (g6.tr h2), h3.1, h3.2.1, h3.2.2.2.2.2⟩
    unfold f_X12_tellHarmless
    have z1 : mK (sI M 134 36 (0 : Int32)) 134 = 13 := hL.o.1
    have z2 : mK (sI (sI M 134 36 (0 : Int32)) 134 37 (-1 : Int32)) 134 = 13 := hL.o.1
    rw [if_pos hL.o.1, ap_of, if_pos z1, ap_of, if_pos z2, bx e1, d, if_pos (show i32 0 = (0 : Int32) from rfl)]
    exact h1
  · have e : harm S A = (0, -1) := by unfold harm; rw [if_neg d]
    rw [e]
    refine ⟨_, ?_, g.tr g6, f1, f2, f3⟩
    unfold f_X12_tellHarmless
    have z1 : mK (sI M 134 36 (0 : Int32)) 134 = 13 := hL.o.1
    have z2 : mK (sI (sI M 134 36 (0 : Int32)) 134 37 (-1 : Int32)) 134 = 13 := hL.o.1
    have z3 : ¬ (i32 (chk S A).1 = (0 : Int32)) := i32_ne (by omega) (by omega) (by omega) (by omega) d
    rw [if_pos hL.o.1, ap_of, if_pos z1, ap_of, if_pos z2, bx e1, if_neg z3]
end
