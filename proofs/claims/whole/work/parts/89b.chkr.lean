/-! unlikeAhead -/
section
variable {M : Mem} {S : Sc} {A : St}
/-- the entries of mine that don't count are passed over -/
theorem ulC_skip (S : Sc) (A : St) (l : Nat) : ∀ (k j fe : Nat), ulC S A l k j fe = ulC S A l (k - (behF (A.rp l) (S.lev l (l - 1)) k j - j)) (behF (A.rp l) (S.lev l (l - 1)) k j) fe := by
  intro k
  induction k with
  | zero => intro j fe; simp [behF]
  | succ k ih =>
    intro j fe
    by_cases c : A.rp l j ≤ S.lev l (l - 1)
    · have : behF (A.rp l) (S.lev l (l - 1)) (k + 1) j = j := by unfold behF; simp [c]
      rw [this]
      simp
    · have e : behF (A.rp l) (S.lev l (l - 1)) (k + 1) j = behF (A.rp l) (S.lev l (l - 1)) k (j + 1) := by
        conv => lhs; unfold behF
        simp [c]
      have hb := behF_le (A.rp l) (S.lev l (l - 1)) k (j + 1)
      rw [e, show k + 1 - (behF (A.rp l) (S.lev l (l - 1)) k (j + 1) - j) = k - (behF (A.rp l) (S.lev l (l - 1)) k (j + 1) - (j + 1)) by omega, ← ih (j + 1) fe]
      conv => lhs; unfold ulC
      rw [if_neg c]
theorem behF_at (rp : Nat → Int) (x : Int) : ∀ (k j : Nat), behF rp x k j = j + k ∨ rp (behF rp x k j) ≤ x := by
  intro k
  induction k with
  | zero => intro j; left; simp [behF]
  | succ k ih =>
    intro j
    unfold behF
    split
    · right; assumption
    · rcases ih (j + 1) with h | h
      · left; omega
      · right; exact h
theorem X12_unlikeAhead (hW : S.wf) (hV : RV M S A) {l : Nat} (hl : l < S.nl) (hl1 : 1 ≤ l) : f_X12_unlikeAhead 134 (i32 l) M = some (i32 (unlS S A l), M) := by
  have hS := hW.1
  obtain ⟨hL, hR, hE⟩ := hV
  have hfo := Sc.fo_lt hS hl
  have hfo1 := Sc.fo_lt hS (show l - 1 < S.nl by omega)
  have eb := X12_both hL hS hR (show l - 1 < S.nl by omega) hl
  rw [← Sc.both_sym hW hl (show l - 1 < S.nl by omega)] at eb
  have hbb := Sc.both_b hS l (l - 1)
  have bl := Sc.lev_b hS l (l - 1)
  have bd := Sc.deep_b hS l (l - 1)
  have er := fun j => X12_repAt hL hE (l := l) (j := j) (by omega)
  have ed := fun j => X12_defAt hL hE (l := l) (j := j) (by omega)
  have er1 := fun j => X12_repAt hL hE (l := l - 1) (j := j) (by omega)
  have ed1 := fun j => X12_defAt hL hE (l := l - 1) (j := j) (by omega)
  have es := fun j h => X12_stepIn hL hE (l := l) (by omega) j (S.lev l (l - 1)) h (by omega) (by omega)
  have es1 := fun j h => X12_stepIn hL hE (l := l - 1) (by omega) j (S.lev l (l - 1)) h (by omega) (by omega)
  obtain ⟨c0, c1, ck, cg, cl, cd, cr, -, -, -, cf⟩ := hR
  obtain ⟨hok, a1, -⟩ := hE
  have hz := hok.2.2.2.1 l
  have hz1 := hok.2.2.2.1 (l - 1)
  have H : ∀ (q k j n fe : Nat), k ≤ q → j + k = A.sz l → q < n → fe ≤ A.sz (l - 1) → (k = 0 ∨ A.rp l j ≤ S.lev l (l - 1)) →
      f_X12_unlikeAhead_62 n 134 (i32 l) (i32 (S.lev l (l - 1))) (i32 (S.deep l (l - 1))) (i32 fe) (i32 j) M = some (i32 (ulC S A l k j fe), M) := by
    intro q
    induction q with
    | zero =>
      intro k j n fe h1 h2 h3 h4 h5
      obtain ⟨n, rfl⟩ : ∃ m, n = m + 1 := ⟨n - 1, by omega⟩
      have : k = 0 := by omega
      subst this
      by_cases c : fe < A.sz (l - 1)
      · simp (disch := omega) only [add_i0, cast_add1, cast_sub1, toNat120, i32_lit, i32_neg, i32_add, i32_sub, i32_mul, i32_nat, i32_le, i32_lt, i32_eq, inB_i, Int.toNat_natCast, mI_sI_eq, mI_sI_ne, mR_sR_eq, mR_sR_ne, mI_sR, mR_sI, mK_sI, mN_sI, mn_sI, mJ_sI, mK_sR, mN_sR, mn_sR, mJ_sR, mI_wI, mR_wI, mK_wI, mN_wI, mn_wI, mJ_wI, ↓bnd_of, ↓bndX_r, ↓bndX_l, ↓ap_of, if_true, if_false, ite_true, ite_false, not_true_eq_false, not_false_eq_true, Nat.reduceAdd, Nat.reduceMul, Nat.reduceEqDiff, Int.reduceToNat, Int.reduceNeg, Ilt_t, Ilt_f, Ile_t, Ile_f, Ieq_t, Ieq_f, Nlt_t, Nlt_f, Nle_t, Nle_f, Neq_t, Neq_f, or_true, true_or, or_false, false_or, and_true, true_and, and_false, false_and, ne_eq, or_self, and_self, decide_true, decide_false, Bool.false_eq_true, f_X12_unlikeAhead_62, f_X12_unlikeAhead_166, ulC, hL.o, a1]
      · simp (disch := omega) only [add_i0, cast_add1, cast_sub1, toNat120, i32_lit, i32_neg, i32_add, i32_sub, i32_mul, i32_nat, i32_le, i32_lt, i32_eq, inB_i, Int.toNat_natCast, mI_sI_eq, mI_sI_ne, mR_sR_eq, mR_sR_ne, mI_sR, mR_sI, mK_sI, mN_sI, mn_sI, mJ_sI, mK_sR, mN_sR, mn_sR, mJ_sR, mI_wI, mR_wI, mK_wI, mN_wI, mn_wI, mJ_wI, ↓bnd_of, ↓bndX_r, ↓bndX_l, ↓ap_of, if_true, if_false, ite_true, ite_false, not_true_eq_false, not_false_eq_true, Nat.reduceAdd, Nat.reduceMul, Nat.reduceEqDiff, Int.reduceToNat, Int.reduceNeg, Ilt_t, Ilt_f, Ile_t, Ile_f, Ieq_t, Ieq_f, Nlt_t, Nlt_f, Nle_t, Nle_f, Neq_t, Neq_f, or_true, true_or, or_false, false_or, and_true, true_and, and_false, false_and, ne_eq, or_self, and_self, decide_true, decide_false, Bool.false_eq_true, f_X12_unlikeAhead_62, f_X12_unlikeAhead_166, ulC, hL.o, a1]
    | succ q ih =>
      intro k j n fe h1 h2 h3 h4 h5
      obtain ⟨n, rfl⟩ : ∃ m, n = m + 1 := ⟨n - 1, by omega⟩
      cases k with
      | zero =>
        by_cases c : fe < A.sz (l - 1)
        · simp (disch := omega) only [add_i0, cast_add1, cast_sub1, toNat120, i32_lit, i32_neg, i32_add, i32_sub, i32_mul, i32_nat, i32_le, i32_lt, i32_eq, inB_i, Int.toNat_natCast, mI_sI_eq, mI_sI_ne, mR_sR_eq, mR_sR_ne, mI_sR, mR_sI, mK_sI, mN_sI, mn_sI, mJ_sI, mK_sR, mN_sR, mn_sR, mJ_sR, mI_wI, mR_wI, mK_wI, mN_wI, mn_wI, mJ_wI, ↓bnd_of, ↓bndX_r, ↓bndX_l, ↓ap_of, if_true, if_false, ite_true, ite_false, not_true_eq_false, not_false_eq_true, Nat.reduceAdd, Nat.reduceMul, Nat.reduceEqDiff, Int.reduceToNat, Int.reduceNeg, Ilt_t, Ilt_f, Ile_t, Ile_f, Ieq_t, Ieq_f, Nlt_t, Nlt_f, Nle_t, Nle_f, Neq_t, Neq_f, or_true, true_or, or_false, false_or, and_true, true_and, and_false, false_and, ne_eq, or_self, and_self, decide_true, decide_false, Bool.false_eq_true, f_X12_unlikeAhead_62, f_X12_unlikeAhead_166, ulC, hL.o, a1]
        · simp (disch := omega) only [add_i0, cast_add1, cast_sub1, toNat120, i32_lit, i32_neg, i32_add, i32_sub, i32_mul, i32_nat, i32_le, i32_lt, i32_eq, inB_i, Int.toNat_natCast, mI_sI_eq, mI_sI_ne, mR_sR_eq, mR_sR_ne, mI_sR, mR_sI, mK_sI, mN_sI, mn_sI, mJ_sI, mK_sR, mN_sR, mn_sR, mJ_sR, mI_wI, mR_wI, mK_wI, mN_wI, mn_wI, mJ_wI, ↓bnd_of, ↓bndX_r, ↓bndX_l, ↓ap_of, if_true, if_false, ite_true, ite_false, not_true_eq_false, not_false_eq_true, Nat.reduceAdd, Nat.reduceMul, Nat.reduceEqDiff, Int.reduceToNat, Int.reduceNeg, Ilt_t, Ilt_f, Ile_t, Ile_f, Ieq_t, Ieq_f, Nlt_t, Nlt_f, Nle_t, Nle_f, Neq_t, Neq_f, or_true, true_or, or_false, false_or, and_true, true_and, and_false, false_and, ne_eq, or_self, and_self, decide_true, decide_false, Bool.false_eq_true, f_X12_unlikeAhead_62, f_X12_unlikeAhead_166, ulC, hL.o, a1]
      | succ k =>
        have h6 : A.rp l j ≤ S.lev l (l - 1) := by
          rcases h5 with h5 | h5
          · omega
          · exact h5
        have b := St.b hok l j
        have b2 := St.b hok (l - 1) fe
        by_cases c : fe < A.sz (l - 1)
        · have e1 := es1 (fe + 1) (by omega)
          have e2 := es (j + 1) (by omega)
          have r1 := er j (by omega)
          have r2 := er1 fe c
          have r3 := ed j (by omega)
          have r4 := ed1 fe c
          have l1 := behF_le (A.rp (l - 1)) (S.lev l (l - 1)) (A.sz (l - 1) - (fe + 1)) (fe + 1)
          have l2 := behF_le (A.rp l) (S.lev l (l - 1)) (A.sz l - (j + 1)) (j + 1)
          have l3 := behF_at (A.rp l) (S.lev l (l - 1)) (A.sz l - (j + 1)) (j + 1)
          rw [show A.sz l - (j + 1) = k by omega] at e2 l2 l3
          by_cases c3 : A.rp l j = A.rp (l - 1) fe
          · by_cases c4 : min (A.df l j) (S.deep l (l - 1)) = min (A.df (l - 1) fe) (S.deep l (l - 1))
            · have e3 := ih (k - (behF (A.rp l) (S.lev l (l - 1)) k (j + 1) - (j + 1))) (behF (A.rp l) (S.lev l (l - 1)) k (j + 1)) n (behF (A.rp (l - 1)) (S.lev l (l - 1)) (A.sz (l - 1) - (fe + 1)) (fe + 1)) (by omega) (by omega) (by omega) (by omega) (by
                rcases l3 with l3 | l3
                · left; omega
                · right; exact l3)
              rw [← ulC_skip] at e3
              (unfold f_X12_unlikeAhead_62; simp only [k_sub1 hl1, k_add1]; simp (disch := omega) only [add_i0, cast_add1, cast_sub1, toNat120, i32_lit, i32_neg, i32_add, i32_sub, i32_mul, i32_nat, i32_le, i32_lt, i32_eq, inB_i, Int.toNat_natCast, mI_sI_eq, mI_sI_ne, mR_sR_eq, mR_sR_ne, mI_sR, mR_sI, mK_sI, mN_sI, mn_sI, mJ_sI, mK_sR, mN_sR, mn_sR, mJ_sR, mI_wI, mR_wI, mK_wI, mN_wI, mn_wI, mJ_wI, ↓bnd_of, ↓bndX_r, ↓bndX_l, ↓ap_of, if_true, if_false, ite_true, ite_false, not_true_eq_false, not_false_eq_true, Nat.reduceAdd, Nat.reduceMul, Nat.reduceEqDiff, Int.reduceToNat, Int.reduceNeg, Ilt_t, Ilt_f, Ile_t, Ile_f, Ieq_t, Ieq_f, Nlt_t, Nlt_f, Nle_t, Nle_f, Neq_t, Neq_f, or_true, true_or, or_false, false_or, and_true, true_and, and_false, false_and, ne_eq, or_self, and_self, decide_true, decide_false, Bool.false_eq_true, ulC, hL.o, a1, ↓bx r1, ↓bx r2, ↓bx r3, ↓bx r4, imin2, ↓bx e1, ↓bx e2, e3])
            · (unfold f_X12_unlikeAhead_62; simp only [k_sub1 hl1, k_add1]; simp (disch := omega) only [add_i0, cast_add1, cast_sub1, toNat120, i32_lit, i32_neg, i32_add, i32_sub, i32_mul, i32_nat, i32_le, i32_lt, i32_eq, inB_i, Int.toNat_natCast, mI_sI_eq, mI_sI_ne, mR_sR_eq, mR_sR_ne, mI_sR, mR_sI, mK_sI, mN_sI, mn_sI, mJ_sI, mK_sR, mN_sR, mn_sR, mJ_sR, mI_wI, mR_wI, mK_wI, mN_wI, mn_wI, mJ_wI, ↓bnd_of, ↓bndX_r, ↓bndX_l, ↓ap_of, if_true, if_false, ite_true, ite_false, not_true_eq_false, not_false_eq_true, Nat.reduceAdd, Nat.reduceMul, Nat.reduceEqDiff, Int.reduceToNat, Int.reduceNeg, Ilt_t, Ilt_f, Ile_t, Ile_f, Ieq_t, Ieq_f, Nlt_t, Nlt_f, Nle_t, Nle_f, Neq_t, Neq_f, or_true, true_or, or_false, false_or, and_true, true_and, and_false, false_and, ne_eq, or_self, and_self, decide_true, decide_false, Bool.false_eq_true, ulC, hL.o, a1, ↓bx r1, ↓bx r2, ↓bx r3, ↓bx r4, imin2])
          · (unfold f_X12_unlikeAhead_62; simp only [k_sub1 hl1, k_add1]; simp (disch := omega) only [add_i0, cast_add1, cast_sub1, toNat120, i32_lit, i32_neg, i32_add, i32_sub, i32_mul, i32_nat, i32_le, i32_lt, i32_eq, inB_i, Int.toNat_natCast, mI_sI_eq, mI_sI_ne, mR_sR_eq, mR_sR_ne, mI_sR, mR_sI, mK_sI, mN_sI, mn_sI, mJ_sI, mK_sR, mN_sR, mn_sR, mJ_sR, mI_wI, mR_wI, mK_wI, mN_wI, mn_wI, mJ_wI, ↓bnd_of, ↓bndX_r, ↓bndX_l, ↓ap_of, if_true, if_false, ite_true, ite_false, not_true_eq_false, not_false_eq_true, Nat.reduceAdd, Nat.reduceMul, Nat.reduceEqDiff, Int.reduceToNat, Int.reduceNeg, Ilt_t, Ilt_f, Ile_t, Ile_f, Ieq_t, Ieq_f, Nlt_t, Nlt_f, Nle_t, Nle_f, Neq_t, Neq_f, or_true, true_or, or_false, false_or, and_true, true_and, and_false, false_and, ne_eq, or_self, and_self, decide_true, decide_false, Bool.false_eq_true, ulC, hL.o, a1, ↓bx r1, ↓bx r2, ↓bx r3, ↓bx r4, imin2])
        · simp (disch := omega) only [add_i0, cast_add1, cast_sub1, toNat120, i32_lit, i32_neg, i32_add, i32_sub, i32_mul, i32_nat, i32_le, i32_lt, i32_eq, inB_i, Int.toNat_natCast, mI_sI_eq, mI_sI_ne, mR_sR_eq, mR_sR_ne, mI_sR, mR_sI, mK_sI, mN_sI, mn_sI, mJ_sI, mK_sR, mN_sR, mn_sR, mJ_sR, mI_wI, mR_wI, mK_wI, mN_wI, mn_wI, mJ_wI, ↓bnd_of, ↓bndX_r, ↓bndX_l, ↓ap_of, if_true, if_false, ite_true, ite_false, not_true_eq_false, not_false_eq_true, Nat.reduceAdd, Nat.reduceMul, Nat.reduceEqDiff, Int.reduceToNat, Int.reduceNeg, Ilt_t, Ilt_f, Ile_t, Ile_f, Ieq_t, Ieq_f, Nlt_t, Nlt_f, Nle_t, Nle_f, Neq_t, Neq_f, or_true, true_or, or_false, false_or, and_true, true_and, and_false, false_and, ne_eq, or_self, and_self, decide_true, decide_false, Bool.false_eq_true, f_X12_unlikeAhead_62, f_X12_unlikeAhead_166, ulC, hL.o, a1]
  have s1 : f_X12_stepIn 134 (i32 l) (i32 0) (i32 (S.lev l (l - 1))) M = _ := es 0 (by omega)
  have s2 : f_X12_stepIn 134 (i32 ((l - 1 : Nat) : Int)) (i32 0) (i32 (S.lev l (l - 1))) M = _ := es1 0 (by omega)
  simp only [Nat.sub_zero] at s1 s2
  have l1 := behF_le (A.rp (l - 1)) (S.lev l (l - 1)) (A.sz (l - 1)) 0
  have l2 := behF_le (A.rp l) (S.lev l (l - 1)) (A.sz l) 0
  have l3 := behF_at (A.rp l) (S.lev l (l - 1)) (A.sz l) 0
  have h := H (A.sz l) (A.sz l - (behF (A.rp l) (S.lev l (l - 1)) (A.sz l) 0 - 0)) (behF (A.rp l) (S.lev l (l - 1)) (A.sz l) 0) FUEL (behF (A.rp (l - 1)) (S.lev l (l - 1)) (A.sz (l - 1)) 0) (by omega) (by omega) (by unfold FUEL; omega) (by omega) (by
    rcases l3 with l3 | l3
    · left; omega
    · right; exact l3)
  rw [← ulC_skip] at h
  have hlev : S.lev l (l - 1) = if S.both l (l - 1) = -1 then 0 else S.sr (S.both l (l - 1)).toNat := rfl
  have hdeep : S.deep l (l - 1) = if S.both l (l - 1) = -1 then 0 else S.sd (S.both l (l - 1)).toNat := rfl
  have z0 : (i32 0 : Int32) = i32 ((0 : Nat) : Int) := rfl
  by_cases c : S.both l (l - 1) = -1
  · rw [if_pos c] at hlev hdeep
    rw [hlev] at s1 s2 h
    rw [hdeep] at h
    unfold f_X12_unlikeAhead
    simp only [k_sub1 hl1]
    simp (disch := omega) only [add_i0, cast_add1, cast_sub1, toNat120, i32_lit, i32_neg, i32_add, i32_sub, i32_mul, i32_nat, i32_le, i32_lt, i32_eq, inB_i, Int.toNat_natCast, mI_sI_eq, mI_sI_ne, mR_sR_eq, mR_sR_ne, mI_sR, mR_sI, mK_sI, mN_sI, mn_sI, mJ_sI, mK_sR, mN_sR, mn_sR, mJ_sR, mI_wI, mR_wI, mK_wI, mN_wI, mn_wI, mJ_wI, ↓bnd_of, ↓bndX_r, ↓bndX_l, ↓ap_of, if_true, if_false, ite_true, ite_false, not_true_eq_false, not_false_eq_true, Nat.reduceAdd, Nat.reduceMul, Nat.reduceEqDiff, Int.reduceToNat, Int.reduceNeg, Ilt_t, Ilt_f, Ile_t, Ile_f, Ieq_t, Ieq_f, Nlt_t, Nlt_f, Nle_t, Nle_f, Neq_t, Neq_f, or_true, true_or, or_false, false_or, and_true, true_and, and_false, false_and, ne_eq, or_self, and_self, decide_true, decide_false, Bool.false_eq_true, f_X12_unlikeAhead_24, hL.o, ↓bx eb, c]
    unfold f_X12_unlikeAhead_40
    simp only [k_sub1 hl1, i32_lit]
    simp (disch := omega) only [add_i0, cast_add1, cast_sub1, toNat120, i32_lit, i32_neg, i32_add, i32_sub, i32_mul, i32_nat, i32_le, i32_lt, i32_eq, inB_i, Int.toNat_natCast, mI_sI_eq, mI_sI_ne, mR_sR_eq, mR_sR_ne, mI_sR, mR_sI, mK_sI, mN_sI, mn_sI, mJ_sI, mK_sR, mN_sR, mn_sR, mJ_sR, mI_wI, mR_wI, mK_wI, mN_wI, mn_wI, mJ_wI, ↓bnd_of, ↓bndX_r, ↓bndX_l, ↓ap_of, if_true, if_false, ite_true, ite_false, not_true_eq_false, not_false_eq_true, Nat.reduceAdd, Nat.reduceMul, Nat.reduceEqDiff, Int.reduceToNat, Int.reduceNeg, Ilt_t, Ilt_f, Ile_t, Ile_f, Ieq_t, Ieq_f, Nlt_t, Nlt_f, Nle_t, Nle_f, Neq_t, Neq_f, or_true, true_or, or_false, false_or, and_true, true_and, and_false, false_and, ne_eq, or_self, and_self, decide_true, decide_false, Bool.false_eq_true, hL.o, ↓bx s1, ↓bx s2]
    unfold unlS
    rw [hlev]
    exact h
  · rw [if_neg c] at hlev hdeep
    unfold f_X12_unlikeAhead
    simp only [k_sub1 hl1]
    simp (disch := omega) only [add_i0, cast_add1, cast_sub1, toNat120, i32_lit, i32_neg, i32_add, i32_sub, i32_mul, i32_nat, i32_le, i32_lt, i32_eq, inB_i, Int.toNat_natCast, mI_sI_eq, mI_sI_ne, mR_sR_eq, mR_sR_ne, mI_sR, mR_sI, mK_sI, mN_sI, mn_sI, mJ_sI, mK_sR, mN_sR, mn_sR, mJ_sR, mI_wI, mR_wI, mK_wI, mN_wI, mn_wI, mJ_wI, ↓bnd_of, ↓bndX_r, ↓bndX_l, ↓ap_of, if_true, if_false, ite_true, ite_false, not_true_eq_false, not_false_eq_true, Nat.reduceAdd, Nat.reduceMul, Nat.reduceEqDiff, Int.reduceToNat, Int.reduceNeg, Ilt_t, Ilt_f, Ile_t, Ile_f, Ieq_t, Ieq_f, Nlt_t, Nlt_f, Nle_t, Nle_f, Neq_t, Neq_f, or_true, true_or, or_false, false_or, and_true, true_and, and_false, false_and, ne_eq, or_self, and_self, decide_true, decide_false, Bool.false_eq_true, f_X12_unlikeAhead_24, hL.o, ↓bx eb, cr, cd, ← hlev, ← hdeep]
    unfold f_X12_unlikeAhead_40
    simp only [k_sub1 hl1, i32_lit]
    simp (disch := omega) only [add_i0, cast_add1, cast_sub1, toNat120, i32_lit, i32_neg, i32_add, i32_sub, i32_mul, i32_nat, i32_le, i32_lt, i32_eq, inB_i, Int.toNat_natCast, mI_sI_eq, mI_sI_ne, mR_sR_eq, mR_sR_ne, mI_sR, mR_sI, mK_sI, mN_sI, mn_sI, mJ_sI, mK_sR, mN_sR, mn_sR, mJ_sR, mI_wI, mR_wI, mK_wI, mN_wI, mn_wI, mJ_wI, ↓bnd_of, ↓bndX_r, ↓bndX_l, ↓ap_of, if_true, if_false, ite_true, ite_false, not_true_eq_false, not_false_eq_true, Nat.reduceAdd, Nat.reduceMul, Nat.reduceEqDiff, Int.reduceToNat, Int.reduceNeg, Ilt_t, Ilt_f, Ile_t, Ile_f, Ieq_t, Ieq_f, Nlt_t, Nlt_f, Nle_t, Nle_f, Neq_t, Neq_f, or_true, true_or, or_false, false_or, and_true, true_and, and_false, false_and, ne_eq, or_self, and_self, decide_true, decide_false, Bool.false_eq_true, hL.o, ↓bx s1, ↓bx s2]
    exact h
end
