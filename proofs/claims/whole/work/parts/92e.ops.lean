/-! picked -/
def pickR (A : St) (fu : Nat → Int) (l : Nat) (h t : Int) (r : Nat) : Bool := decide (firstFrom (A.rp l) r (A.sz l) 0 0 ≠ -1 ∧ ¬ (anyB (pickP A fu l h t) (behF (A.rp l) 0 (A.sz l - ((firstFrom (A.rp l) r (A.sz l) 0 0).toNat + 1)) ((firstFrom (A.rp l) r (A.sz l) 0 0).toNat + 1) - (firstFrom (A.rp l) r (A.sz l) 0 0).toNat) (firstFrom (A.rp l) r (A.sz l) 0 0).toNat = true ↔ h = 3))
def pickS (A : St) (fu : Nat → Int) (l : Nat) (h t : Int) : Nat → Nat → Int32 → Int32 := lp (fun r x => if pickR A fu l h t r = true then x ||| (i32 1 <<< (i32 r &&& i32 31)) else x)
def a_picked (S : Sc) (A : St) (l h t : Int) : Nat ⊕ Int32 := if (0 ≤ l ∧ l < S.nl) ∧ 0 ≤ h ∧ h ≤ 3 then .inr (pickS A S.fu l.toNat h t A.rc 0 (i32 0)) else .inl 1
section
variable {M : Mem} {s : Nat} {S : Sc} {A : St}
theorem c_picked (h : RO M s S A) (l z t : Int) (z1 : -2147483648 ≤ l) (z2 : l ≤ 2147483647) (z3 : -2147483648 ≤ z) (z4 : z ≤ 2147483647) (z5 : -2147483648 ≤ t) (z6 : t ≤ 2147483647) : f_X11_picked 1 (i32 l) (i32 z) (i32 t) M = some (a_picked S A l z t, M) := by
  obtain ⟨hW, hV, -, h8⟩ := h
  have hn := X11_needLeaf hV h8 hW.1 l z1 z2
  have b := hW.1.2.1
  obtain ⟨hL, hc, hs, hC, hA, hr, -⟩ := hV
  have hcol := hc.2.2.2.2.2.2.2.2.2.2
  simp only [Nat.reduceSub] at hcol
  unfold a_picked
  by_cases d : 0 ≤ l ∧ l < S.nl
  · rw [if_pos d] at hn
    obtain ⟨l, rfl⟩ : ∃ k : Nat, l = k := ⟨l.toNat, by omega⟩
    simp only [Int.toNat_natCast]
    by_cases e : 0 ≤ z ∧ z ≤ 3
    · have bz := St.b hA.1 l 0
      have H : ∀ (k j n : Nat) (x : Int32), j + k = A.rc → k < n → f_X11_picked_42 n 1 (i32 z) (i32 t) (21 + 4 * l) x (i32 j) M = some (.inr (pickS A S.fu l z t k j x), M) := by
        intro k
        induction k with
        | zero =>
          intro j n x hj hn
          obtain ⟨n, rfl⟩ : ∃ m, n = m + 1 := ⟨n - 1, by omega⟩
          simp (disch := omega) only [add_i0, cast_add1, cast_sub1, toNat120, i32_lit, i32_neg, i32_add, i32_sub, i32_mul, i32_nat, i32_le, i32_lt, i32_eq, inB_i, Int.toNat_natCast, mI_sI_eq, mI_sI_ne, mR_sR_eq, mR_sR_ne, mI_sR, mR_sI, mK_sI, mN_sI, mn_sI, mJ_sI, mK_sR, mN_sR, mn_sR, mJ_sR, mI_wI, mR_wI, mK_wI, mN_wI, mn_wI, mJ_wI, ↓bnd_of, ↓bndX_r, ↓bndX_l, ↓ap_of, bnd_of, bndX_r, bndX_l, if_true, if_false, ite_true, ite_false, not_true_eq_false, not_false_eq_true, Nat.reduceAdd, Nat.reduceMul, Nat.reduceEqDiff, Int.reduceToNat, Int.reduceNeg, Ilt_t, Ilt_f, Ile_t, Ile_f, Ieq_t, Ieq_f, Nlt_t, Nlt_f, Nle_t, Nle_f, Neq_t, Neq_f, or_true, true_or, or_false, false_or, and_true, true_and, and_false, false_and, ne_eq, or_self, and_self, decide_true, decide_false, Bool.false_eq_true, f_X11_picked_42, pickS, lp, hL.o, hr]
        | succ k ih =>
          intro j n x hj hn
          obtain ⟨n, rfl⟩ : ∃ m, n = m + 1 := ⟨n - 1, by omega⟩
          have e1 := X2_firstOf hc hA (l := l) (by omega) j (by omega) (by omega)
          have fb := firstFrom_b (A.rp l) j (A.sz l) 0 0
          have hcK := hc.1 l (by omega)
          have eP : pickS A S.fu l z t (k + 1) j x = pickS A S.fu l z t k (j + 1) (if pickR A S.fu l z t j = true then x ||| (i32 1 <<< (i32 j &&& i32 31)) else x) := rfl
          rw [eP]
          by_cases q : firstFrom (A.rp l) j (A.sz l) 0 0 = -1
          · have hp : pickR A S.fu l z t j = false := by unfold pickR; simp [q]
            simp (disch := omega) only [add_i0, cast_add1, cast_sub1, toNat120, i32_lit, i32_neg, i32_add, i32_sub, i32_mul, i32_nat, i32_le, i32_lt, i32_eq, inB_i, Int.toNat_natCast, mI_sI_eq, mI_sI_ne, mR_sR_eq, mR_sR_ne, mI_sR, mR_sI, mK_sI, mN_sI, mn_sI, mJ_sI, mK_sR, mN_sR, mn_sR, mJ_sR, mI_wI, mR_wI, mK_wI, mN_wI, mn_wI, mJ_wI, ↓bnd_of, ↓bndX_r, ↓bndX_l, ↓ap_of, bnd_of, bndX_r, bndX_l, if_true, if_false, ite_true, ite_false, not_true_eq_false, not_false_eq_true, Nat.reduceAdd, Nat.reduceMul, Nat.reduceEqDiff, Int.reduceToNat, Int.reduceNeg, Ilt_t, Ilt_f, Ile_t, Ile_f, Ieq_t, Ieq_f, Nlt_t, Nlt_f, Nle_t, Nle_f, Neq_t, Neq_f, or_true, true_or, or_false, false_or, and_true, true_and, and_false, false_and, ne_eq, or_self, and_self, decide_true, decide_false, Bool.false_eq_true, f_X11_picked_42, f_X11_picked_98, hL.o, hr, hcK, ↓bx e1, q, hp, ih]
          · obtain ⟨p, hp⟩ : ∃ p : Nat, firstFrom (A.rp l) j (A.sz l) 0 0 = p := ⟨(firstFrom (A.rp l) j (A.sz l) 0 0).toNat, by omega⟩
            rw [hp] at e1 fb
            have hbl := behF_le (A.rp l) 0 (A.sz l - (p + 1)) (p + 1)
            have e2 : f_X2_behind (21 + 4 * l) (i32 p) (0 : Int32) M = some (i32 (behF (A.rp l) 0 (A.sz l - (p + 1)) (p + 1)), M) := X2_behind hc hA (l := l) (by omega) p 0 (by omega) (by omega) (by omega) (by omega)
            have e3 := X2_fits hc hA (l := l) (by omega) p (behF (A.rp l) 0 (A.sz l - (p + 1)) (p + 1)) (by omega) (by omega) z t (by omega) (by omega) z5 z6
            have hR : pickR A S.fu l z t j = decide (¬ (anyB (pickP A S.fu l z t) (behF (A.rp l) 0 (A.sz l - (p + 1)) (p + 1) - p) p = true ↔ z = 3)) := by
              unfold pickR
              rw [hp]
              simp
            by_cases c : (anyB (pickP A S.fu l z t) (behF (A.rp l) 0 (A.sz l - (p + 1)) (p + 1) - p) p = true ↔ z = 3)
            · rw [if_pos c] at e3
              have hp2 : pickR A S.fu l z t j = false := by rw [hR]; simp [c]
              simp (disch := omega) only [add_i0, cast_add1, cast_sub1, toNat120, i32_lit, i32_neg, i32_add, i32_sub, i32_mul, i32_nat, i32_le, i32_lt, i32_eq, inB_i, Int.toNat_natCast, mI_sI_eq, mI_sI_ne, mR_sR_eq, mR_sR_ne, mI_sR, mR_sI, mK_sI, mN_sI, mn_sI, mJ_sI, mK_sR, mN_sR, mn_sR, mJ_sR, mI_wI, mR_wI, mK_wI, mN_wI, mn_wI, mJ_wI, ↓bnd_of, ↓bndX_r, ↓bndX_l, ↓ap_of, bnd_of, bndX_r, bndX_l, if_true, if_false, ite_true, ite_false, not_true_eq_false, not_false_eq_true, Nat.reduceAdd, Nat.reduceMul, Nat.reduceEqDiff, Int.reduceToNat, Int.reduceNeg, Ilt_t, Ilt_f, Ile_t, Ile_f, Ieq_t, Ieq_f, Nlt_t, Nlt_f, Nle_t, Nle_f, Neq_t, Neq_f, or_true, true_or, or_false, false_or, and_true, true_and, and_false, false_and, ne_eq, or_self, and_self, decide_true, decide_false, Bool.false_eq_true, f_X11_picked_42, f_X11_picked_98, hL.o, hr, hcK, ↓bx e1, ↓bx e2, ↓bx e3, hp2, ih]
            · rw [if_neg c] at e3
              have hp2 : pickR A S.fu l z t j = true := by rw [hR]; exact decide_eq_true c
              simp (disch := omega) only [add_i0, cast_add1, cast_sub1, toNat120, i32_lit, i32_neg, i32_add, i32_sub, i32_mul, i32_nat, i32_le, i32_lt, i32_eq, inB_i, Int.toNat_natCast, mI_sI_eq, mI_sI_ne, mR_sR_eq, mR_sR_ne, mI_sR, mR_sI, mK_sI, mN_sI, mn_sI, mJ_sI, mK_sR, mN_sR, mn_sR, mJ_sR, mI_wI, mR_wI, mK_wI, mN_wI, mn_wI, mJ_wI, ↓bnd_of, ↓bndX_r, ↓bndX_l, ↓ap_of, bnd_of, bndX_r, bndX_l, if_true, if_false, ite_true, ite_false, not_true_eq_false, not_false_eq_true, Nat.reduceAdd, Nat.reduceMul, Nat.reduceEqDiff, Int.reduceToNat, Int.reduceNeg, Ilt_t, Ilt_f, Ile_t, Ile_f, Ieq_t, Ieq_f, Nlt_t, Nlt_f, Nle_t, Nle_f, Neq_t, Neq_f, or_true, true_or, or_false, false_or, and_true, true_and, and_false, false_and, ne_eq, or_self, and_self, decide_true, decide_false, Bool.false_eq_true, f_X11_picked_42, f_X11_picked_98, hL.o, hr, hcK, ↓bx e1, ↓bx e2, ↓bx e3, hp2, ih]
      have h0 := H A.rc 0 FUEL (i32 0) (by omega) (by unfold FUEL; omega)
      rw [if_pos ⟨d, e⟩]
      simp (disch := omega) only [add_i0, cast_add1, cast_sub1, toNat120, i32_lit, i32_neg, i32_add, i32_sub, i32_mul, i32_nat, i32_le, i32_lt, i32_eq, inB_i, Int.toNat_natCast, mI_sI_eq, mI_sI_ne, mR_sR_eq, mR_sR_ne, mI_sR, mR_sI, mK_sI, mN_sI, mn_sI, mJ_sI, mK_sR, mN_sR, mn_sR, mJ_sR, mI_wI, mR_wI, mK_wI, mN_wI, mn_wI, mJ_wI, ↓bnd_of, ↓bndX_r, ↓bndX_l, ↓ap_of, bnd_of, bndX_r, bndX_l, if_true, if_false, ite_true, ite_false, not_true_eq_false, not_false_eq_true, Nat.reduceAdd, Nat.reduceMul, Nat.reduceEqDiff, Int.reduceToNat, Int.reduceNeg, Ilt_t, Ilt_f, Ile_t, Ile_f, Ieq_t, Ieq_f, Nlt_t, Nlt_f, Nle_t, Nle_f, Neq_t, Neq_f, or_true, true_or, or_false, false_or, and_true, true_and, and_false, false_and, ne_eq, or_self, and_self, decide_true, decide_false, Bool.false_eq_true, f_X11_picked, f_X11_picked_14, hL.o, ↓bxX hn, hcol]
      exact h0
    · rw [if_neg (fun q => e q.2)]
      simp (disch := omega) only [add_i0, cast_add1, cast_sub1, toNat120, i32_lit, i32_neg, i32_add, i32_sub, i32_mul, i32_nat, i32_le, i32_lt, i32_eq, inB_i, Int.toNat_natCast, mI_sI_eq, mI_sI_ne, mR_sR_eq, mR_sR_ne, mI_sR, mR_sI, mK_sI, mN_sI, mn_sI, mJ_sI, mK_sR, mN_sR, mn_sR, mJ_sR, mI_wI, mR_wI, mK_wI, mN_wI, mn_wI, mJ_wI, ↓bnd_of, ↓bndX_r, ↓bndX_l, ↓ap_of, bnd_of, bndX_r, bndX_l, if_true, if_false, ite_true, ite_false, not_true_eq_false, not_false_eq_true, Nat.reduceAdd, Nat.reduceMul, Nat.reduceEqDiff, Int.reduceToNat, Int.reduceNeg, Ilt_t, Ilt_f, Ile_t, Ile_f, Ieq_t, Ieq_f, Nlt_t, Nlt_f, Nle_t, Nle_f, Neq_t, Neq_f, or_true, true_or, or_false, false_or, and_true, true_and, and_false, false_and, ne_eq, or_self, and_self, decide_true, decide_false, Bool.false_eq_true, f_X11_picked, f_X11_picked_14, hL.o, ↓bxX hn]
      (first | done | with_reducible rfl | ((repeat' split) <;> (first | with_reducible rfl | (exfalso; omega) | grind)))
  · rw [if_neg d] at hn
    rw [if_neg (fun q => d q.1)]
    simp (disch := omega) only [add_i0, cast_add1, cast_sub1, toNat120, i32_lit, i32_neg, i32_add, i32_sub, i32_mul, i32_nat, i32_le, i32_lt, i32_eq, inB_i, Int.toNat_natCast, mI_sI_eq, mI_sI_ne, mR_sR_eq, mR_sR_ne, mI_sR, mR_sI, mK_sI, mN_sI, mn_sI, mJ_sI, mK_sR, mN_sR, mn_sR, mJ_sR, mI_wI, mR_wI, mK_wI, mN_wI, mn_wI, mJ_wI, ↓bnd_of, ↓bndX_r, ↓bndX_l, ↓ap_of, bnd_of, bndX_r, bndX_l, if_true, if_false, ite_true, ite_false, not_true_eq_false, not_false_eq_true, Nat.reduceAdd, Nat.reduceMul, Nat.reduceEqDiff, Int.reduceToNat, Int.reduceNeg, Ilt_t, Ilt_f, Ile_t, Ile_f, Ieq_t, Ieq_f, Nlt_t, Nlt_f, Nle_t, Nle_f, Neq_t, Neq_f, or_true, true_or, or_false, false_or, and_true, true_and, and_false, false_and, ne_eq, or_self, and_self, decide_true, decide_false, Bool.false_eq_true, f_X11_picked, hL.o, ↓bxL hn]
/-- the reference's inner loop over a record's entries -/
theorem X12_pickIn (hW : S.wf) (hV : RV M S A) {l : Nat} (hl : l < S.nl) (g : Nat → Int32 → Int32 → Int32 → Int32 → Int32 → Mem → Option (Int32 × Mem)) (h t : Int) (h0 : 0 ≤ h) (h3 : h ≤ 3) (t1 : -2147483648 ≤ t) (t2 : t ≤ 2147483647) (x : Int32) (r p : Nat) (hr : r ≤ 30) (hp : p < A.sz l) :
    ∀ (k j n : Nat) (a b : Int), j + k = behF (A.rp l) 0 (A.sz l - (p + 1)) (p + 1) → k < n → 0 ≤ a → a ≤ 1 → 0 ≤ b → b ≤ 1 →
      f_X12_picked_65 g n 134 (i32 l) (i32 h) (i32 t) x (i32 r) (i32 p) (i32 a) (i32 b) (i32 j) M = g 134 (i32 l) (i32 h) (i32 t) (if ((if h = 3 then a else b) = 1 ∨ anyB (pickP A S.fu l h t) k j = true) ↔ ¬ h = 3 then x ||| (i32 1 <<< (i32 r &&& i32 31)) else x) (i32 (r + 1 : Nat)) M := by
  have hL := hV.1
  have hE := hV.2.2
  have b8 := hW.1.2.1
  have a1 := hE.2.1 l (by omega)
  have bz := St.b hE.1 l 0
  have eb := X12_behindOf hL hE (l := l) (by omega) p hp
  have hbl := behF_le (A.rp l) 0 (A.sz l - (p + 1)) (p + 1)
  intro k
  induction k with
  | zero =>
    intro j n a b hj hn q1 q2 q3 q4
    obtain ⟨n, rfl⟩ : ∃ m, n = m + 1 := ⟨n - 1, by omega⟩
    have ca : a = 0 ∨ a = 1 := by omega
    have cb : b = 0 ∨ b = 1 := by omega
    have ch : h = 3 ∨ h ≠ 3 := by omega
    rcases ca with rfl | rfl <;> rcases cb with rfl | rfl <;> rcases ch with rfl | ch <;> simp (disch := omega) only [add_i0, cast_add1, cast_sub1, toNat120, i32_lit, i32_neg, i32_add, i32_sub, i32_mul, i32_nat, i32_le, i32_lt, i32_eq, inB_i, Int.toNat_natCast, mI_sI_eq, mI_sI_ne, mR_sR_eq, mR_sR_ne, mI_sR, mR_sI, mK_sI, mN_sI, mn_sI, mJ_sI, mK_sR, mN_sR, mn_sR, mJ_sR, mI_wI, mR_wI, mK_wI, mN_wI, mn_wI, mJ_wI, ↓bnd_of, ↓bndX_r, ↓bndX_l, ↓ap_of, bnd_of, bndX_r, bndX_l, if_true, if_false, ite_true, ite_false, not_true_eq_false, not_false_eq_true, Nat.reduceAdd, Nat.reduceMul, Nat.reduceEqDiff, Int.reduceToNat, Int.reduceNeg, Ilt_t, Ilt_f, Ile_t, Ile_f, Ieq_t, Ieq_f, Nlt_t, Nlt_f, Nle_t, Nle_f, Neq_t, Neq_f, or_true, true_or, or_false, false_or, and_true, true_and, and_false, false_and, ne_eq, or_self, and_self, decide_true, decide_false, Bool.false_eq_true, f_X12_picked_65, f_X12_picked_164, f_X12_picked_184, f_X12_picked_211, f_X12_picked_212, anyB, hL.o, a1, ↓bx eb, or_i0] <;> simp [*]
  | succ k ih =>
    intro j n a b hj hn q1 q2 q3 q4
    obtain ⟨n, rfl⟩ : ∃ m, n = m + 1 := ⟨n - 1, by omega⟩
    have hv := X12_hasValue hL hW.1 hV.2.1 hE hl (j := j) (by omega)
    have hvj := X12_valueAt hL hE (l := l) (j := j) (by omega) (by omega)
    have bj := St.b hE.1 l j
    by_cases c : A.df l j = S.fu l
    · have hc : h = 0 ∨ h = 1 ∨ h = 2 ∨ h = 3 := by omega
      have cb : b = 0 ∨ b = 1 := by omega
      rcases hc with rfl | rfl | rfl | rfl
      · rcases cb with rfl | rfl
        · by_cases e : A.vl l j = t
          · simp (disch := omega) only [add_i0, cast_add1, cast_sub1, toNat120, i32_lit, i32_neg, i32_add, i32_sub, i32_mul, i32_nat, i32_le, i32_lt, i32_eq, inB_i, Int.toNat_natCast, mI_sI_eq, mI_sI_ne, mR_sR_eq, mR_sR_ne, mI_sR, mR_sI, mK_sI, mN_sI, mn_sI, mJ_sI, mK_sR, mN_sR, mn_sR, mJ_sR, mI_wI, mR_wI, mK_wI, mN_wI, mn_wI, mJ_wI, ↓bnd_of, ↓bndX_r, ↓bndX_l, ↓ap_of, bnd_of, bndX_r, bndX_l, if_true, if_false, ite_true, ite_false, not_true_eq_false, not_false_eq_true, Nat.reduceAdd, Nat.reduceMul, Nat.reduceEqDiff, Int.reduceToNat, Int.reduceNeg, Ilt_t, Ilt_f, Ile_t, Ile_f, Ieq_t, Ieq_f, Nlt_t, Nlt_f, Nle_t, Nle_f, Neq_t, Neq_f, or_true, true_or, or_false, false_or, and_true, true_and, and_false, false_and, ne_eq, or_self, and_self, decide_true, decide_false, Bool.false_eq_true, f_X12_picked_65, f_X12_picked_151, f_X12_picked_155, f_X12_picked_156, f_X12_picked_158, anyB, pickP, hL.o, a1, ↓bx eb, ↓bx hv, ↓bx hvj, ite10, c, e, ih]
            try simp
          · simp (disch := omega) only [add_i0, cast_add1, cast_sub1, toNat120, i32_lit, i32_neg, i32_add, i32_sub, i32_mul, i32_nat, i32_le, i32_lt, i32_eq, inB_i, Int.toNat_natCast, mI_sI_eq, mI_sI_ne, mR_sR_eq, mR_sR_ne, mI_sR, mR_sI, mK_sI, mN_sI, mn_sI, mJ_sI, mK_sR, mN_sR, mn_sR, mJ_sR, mI_wI, mR_wI, mK_wI, mN_wI, mn_wI, mJ_wI, ↓bnd_of, ↓bndX_r, ↓bndX_l, ↓ap_of, bnd_of, bndX_r, bndX_l, if_true, if_false, ite_true, ite_false, not_true_eq_false, not_false_eq_true, Nat.reduceAdd, Nat.reduceMul, Nat.reduceEqDiff, Int.reduceToNat, Int.reduceNeg, Ilt_t, Ilt_f, Ile_t, Ile_f, Ieq_t, Ieq_f, Nlt_t, Nlt_f, Nle_t, Nle_f, Neq_t, Neq_f, or_true, true_or, or_false, false_or, and_true, true_and, and_false, false_and, ne_eq, or_self, and_self, decide_true, decide_false, Bool.false_eq_true, f_X12_picked_65, f_X12_picked_151, f_X12_picked_155, f_X12_picked_156, f_X12_picked_158, anyB, hL.o, a1, ↓bx eb, ↓bx hv, ↓bx hvj, ite10, c, e, ih]
            simp [pickP, c, e]
        · simp (disch := omega) only [add_i0, cast_add1, cast_sub1, toNat120, i32_lit, i32_neg, i32_add, i32_sub, i32_mul, i32_nat, i32_le, i32_lt, i32_eq, inB_i, Int.toNat_natCast, mI_sI_eq, mI_sI_ne, mR_sR_eq, mR_sR_ne, mI_sR, mR_sI, mK_sI, mN_sI, mn_sI, mJ_sI, mK_sR, mN_sR, mn_sR, mJ_sR, mI_wI, mR_wI, mK_wI, mN_wI, mn_wI, mJ_wI, ↓bnd_of, ↓bndX_r, ↓bndX_l, ↓ap_of, bnd_of, bndX_r, bndX_l, if_true, if_false, ite_true, ite_false, not_true_eq_false, not_false_eq_true, Nat.reduceAdd, Nat.reduceMul, Nat.reduceEqDiff, Int.reduceToNat, Int.reduceNeg, Ilt_t, Ilt_f, Ile_t, Ile_f, Ieq_t, Ieq_f, Nlt_t, Nlt_f, Nle_t, Nle_f, Neq_t, Neq_f, or_true, true_or, or_false, false_or, and_true, true_and, and_false, false_and, ne_eq, or_self, and_self, decide_true, decide_false, Bool.false_eq_true, f_X12_picked_65, f_X12_picked_151, f_X12_picked_155, f_X12_picked_156, f_X12_picked_158, anyB, hL.o, a1, ↓bx eb, ↓bx hv, ↓bx hvj, ite10, c, ih]
      · rcases cb with rfl | rfl
        · by_cases e : t ≤ A.vl l j
          · simp (disch := omega) only [add_i0, cast_add1, cast_sub1, toNat120, i32_lit, i32_neg, i32_add, i32_sub, i32_mul, i32_nat, i32_le, i32_lt, i32_eq, inB_i, Int.toNat_natCast, mI_sI_eq, mI_sI_ne, mR_sR_eq, mR_sR_ne, mI_sR, mR_sI, mK_sI, mN_sI, mn_sI, mJ_sI, mK_sR, mN_sR, mn_sR, mJ_sR, mI_wI, mR_wI, mK_wI, mN_wI, mn_wI, mJ_wI, ↓bnd_of, ↓bndX_r, ↓bndX_l, ↓ap_of, bnd_of, bndX_r, bndX_l, if_true, if_false, ite_true, ite_false, not_true_eq_false, not_false_eq_true, Nat.reduceAdd, Nat.reduceMul, Nat.reduceEqDiff, Int.reduceToNat, Int.reduceNeg, Ilt_t, Ilt_f, Ile_t, Ile_f, Ieq_t, Ieq_f, Nlt_t, Nlt_f, Nle_t, Nle_f, Neq_t, Neq_f, or_true, true_or, or_false, false_or, and_true, true_and, and_false, false_and, ne_eq, or_self, and_self, decide_true, decide_false, Bool.false_eq_true, f_X12_picked_65, f_X12_picked_151, f_X12_picked_155, f_X12_picked_156, f_X12_picked_158, anyB, hL.o, a1, ↓bx eb, ↓bx hv, ↓bx hvj, ite10, c, e, ih]
            simp [pickP, c, show ¬ A.vl l j < t by omega]
          · simp (disch := omega) only [add_i0, cast_add1, cast_sub1, toNat120, i32_lit, i32_neg, i32_add, i32_sub, i32_mul, i32_nat, i32_le, i32_lt, i32_eq, inB_i, Int.toNat_natCast, mI_sI_eq, mI_sI_ne, mR_sR_eq, mR_sR_ne, mI_sR, mR_sI, mK_sI, mN_sI, mn_sI, mJ_sI, mK_sR, mN_sR, mn_sR, mJ_sR, mI_wI, mR_wI, mK_wI, mN_wI, mn_wI, mJ_wI, ↓bnd_of, ↓bndX_r, ↓bndX_l, ↓ap_of, bnd_of, bndX_r, bndX_l, if_true, if_false, ite_true, ite_false, not_true_eq_false, not_false_eq_true, Nat.reduceAdd, Nat.reduceMul, Nat.reduceEqDiff, Int.reduceToNat, Int.reduceNeg, Ilt_t, Ilt_f, Ile_t, Ile_f, Ieq_t, Ieq_f, Nlt_t, Nlt_f, Nle_t, Nle_f, Neq_t, Neq_f, or_true, true_or, or_false, false_or, and_true, true_and, and_false, false_and, ne_eq, or_self, and_self, decide_true, decide_false, Bool.false_eq_true, f_X12_picked_65, f_X12_picked_151, f_X12_picked_155, f_X12_picked_156, f_X12_picked_158, anyB, hL.o, a1, ↓bx eb, ↓bx hv, ↓bx hvj, ite10, c, e, ih]
            simp [pickP, c, show A.vl l j < t by omega]
        · simp (disch := omega) only [add_i0, cast_add1, cast_sub1, toNat120, i32_lit, i32_neg, i32_add, i32_sub, i32_mul, i32_nat, i32_le, i32_lt, i32_eq, inB_i, Int.toNat_natCast, mI_sI_eq, mI_sI_ne, mR_sR_eq, mR_sR_ne, mI_sR, mR_sI, mK_sI, mN_sI, mn_sI, mJ_sI, mK_sR, mN_sR, mn_sR, mJ_sR, mI_wI, mR_wI, mK_wI, mN_wI, mn_wI, mJ_wI, ↓bnd_of, ↓bndX_r, ↓bndX_l, ↓ap_of, bnd_of, bndX_r, bndX_l, if_true, if_false, ite_true, ite_false, not_true_eq_false, not_false_eq_true, Nat.reduceAdd, Nat.reduceMul, Nat.reduceEqDiff, Int.reduceToNat, Int.reduceNeg, Ilt_t, Ilt_f, Ile_t, Ile_f, Ieq_t, Ieq_f, Nlt_t, Nlt_f, Nle_t, Nle_f, Neq_t, Neq_f, or_true, true_or, or_false, false_or, and_true, true_and, and_false, false_and, ne_eq, or_self, and_self, decide_true, decide_false, Bool.false_eq_true, f_X12_picked_65, f_X12_picked_151, f_X12_picked_155, f_X12_picked_156, f_X12_picked_158, anyB, hL.o, a1, ↓bx eb, ↓bx hv, ↓bx hvj, ite10, c, ih]
      · rcases cb with rfl | rfl
        · by_cases e : A.vl l j ≤ t
          · simp (disch := omega) only [add_i0, cast_add1, cast_sub1, toNat120, i32_lit, i32_neg, i32_add, i32_sub, i32_mul, i32_nat, i32_le, i32_lt, i32_eq, inB_i, Int.toNat_natCast, mI_sI_eq, mI_sI_ne, mR_sR_eq, mR_sR_ne, mI_sR, mR_sI, mK_sI, mN_sI, mn_sI, mJ_sI, mK_sR, mN_sR, mn_sR, mJ_sR, mI_wI, mR_wI, mK_wI, mN_wI, mn_wI, mJ_wI, ↓bnd_of, ↓bndX_r, ↓bndX_l, ↓ap_of, bnd_of, bndX_r, bndX_l, if_true, if_false, ite_true, ite_false, not_true_eq_false, not_false_eq_true, Nat.reduceAdd, Nat.reduceMul, Nat.reduceEqDiff, Int.reduceToNat, Int.reduceNeg, Ilt_t, Ilt_f, Ile_t, Ile_f, Ieq_t, Ieq_f, Nlt_t, Nlt_f, Nle_t, Nle_f, Neq_t, Neq_f, or_true, true_or, or_false, false_or, and_true, true_and, and_false, false_and, ne_eq, or_self, and_self, decide_true, decide_false, Bool.false_eq_true, f_X12_picked_65, f_X12_picked_151, f_X12_picked_155, f_X12_picked_156, f_X12_picked_158, anyB, hL.o, a1, ↓bx eb, ↓bx hv, ↓bx hvj, ite10, c, e, ih]
            simp [pickP, c, show ¬ t < A.vl l j by omega]
          · simp (disch := omega) only [add_i0, cast_add1, cast_sub1, toNat120, i32_lit, i32_neg, i32_add, i32_sub, i32_mul, i32_nat, i32_le, i32_lt, i32_eq, inB_i, Int.toNat_natCast, mI_sI_eq, mI_sI_ne, mR_sR_eq, mR_sR_ne, mI_sR, mR_sI, mK_sI, mN_sI, mn_sI, mJ_sI, mK_sR, mN_sR, mn_sR, mJ_sR, mI_wI, mR_wI, mK_wI, mN_wI, mn_wI, mJ_wI, ↓bnd_of, ↓bndX_r, ↓bndX_l, ↓ap_of, bnd_of, bndX_r, bndX_l, if_true, if_false, ite_true, ite_false, not_true_eq_false, not_false_eq_true, Nat.reduceAdd, Nat.reduceMul, Nat.reduceEqDiff, Int.reduceToNat, Int.reduceNeg, Ilt_t, Ilt_f, Ile_t, Ile_f, Ieq_t, Ieq_f, Nlt_t, Nlt_f, Nle_t, Nle_f, Neq_t, Neq_f, or_true, true_or, or_false, false_or, and_true, true_and, and_false, false_and, ne_eq, or_self, and_self, decide_true, decide_false, Bool.false_eq_true, f_X12_picked_65, f_X12_picked_151, f_X12_picked_155, f_X12_picked_156, f_X12_picked_158, anyB, hL.o, a1, ↓bx eb, ↓bx hv, ↓bx hvj, ite10, c, e, ih]
            simp [pickP, c, show t < A.vl l j by omega]
        · simp (disch := omega) only [add_i0, cast_add1, cast_sub1, toNat120, i32_lit, i32_neg, i32_add, i32_sub, i32_mul, i32_nat, i32_le, i32_lt, i32_eq, inB_i, Int.toNat_natCast, mI_sI_eq, mI_sI_ne, mR_sR_eq, mR_sR_ne, mI_sR, mR_sI, mK_sI, mN_sI, mn_sI, mJ_sI, mK_sR, mN_sR, mn_sR, mJ_sR, mI_wI, mR_wI, mK_wI, mN_wI, mn_wI, mJ_wI, ↓bnd_of, ↓bndX_r, ↓bndX_l, ↓ap_of, bnd_of, bndX_r, bndX_l, if_true, if_false, ite_true, ite_false, not_true_eq_false, not_false_eq_true, Nat.reduceAdd, Nat.reduceMul, Nat.reduceEqDiff, Int.reduceToNat, Int.reduceNeg, Ilt_t, Ilt_f, Ile_t, Ile_f, Ieq_t, Ieq_f, Nlt_t, Nlt_f, Nle_t, Nle_f, Neq_t, Neq_f, or_true, true_or, or_false, false_or, and_true, true_and, and_false, false_and, ne_eq, or_self, and_self, decide_true, decide_false, Bool.false_eq_true, f_X12_picked_65, f_X12_picked_151, f_X12_picked_155, f_X12_picked_156, f_X12_picked_158, anyB, hL.o, a1, ↓bx eb, ↓bx hv, ↓bx hvj, ite10, c, ih]
      · rcases cb with rfl | rfl
        · by_cases e : A.vl l j ≤ t
          · simp (disch := omega) only [add_i0, cast_add1, cast_sub1, toNat120, i32_lit, i32_neg, i32_add, i32_sub, i32_mul, i32_nat, i32_le, i32_lt, i32_eq, inB_i, Int.toNat_natCast, mI_sI_eq, mI_sI_ne, mR_sR_eq, mR_sR_ne, mI_sR, mR_sI, mK_sI, mN_sI, mn_sI, mJ_sI, mK_sR, mN_sR, mn_sR, mJ_sR, mI_wI, mR_wI, mK_wI, mN_wI, mn_wI, mJ_wI, ↓bnd_of, ↓bndX_r, ↓bndX_l, ↓ap_of, bnd_of, bndX_r, bndX_l, if_true, if_false, ite_true, ite_false, not_true_eq_false, not_false_eq_true, Nat.reduceAdd, Nat.reduceMul, Nat.reduceEqDiff, Int.reduceToNat, Int.reduceNeg, Ilt_t, Ilt_f, Ile_t, Ile_f, Ieq_t, Ieq_f, Nlt_t, Nlt_f, Nle_t, Nle_f, Neq_t, Neq_f, or_true, true_or, or_false, false_or, and_true, true_and, and_false, false_and, ne_eq, or_self, and_self, decide_true, decide_false, Bool.false_eq_true, f_X12_picked_65, f_X12_picked_151, f_X12_picked_155, f_X12_picked_156, f_X12_picked_158, anyB, hL.o, a1, ↓bx eb, ↓bx hv, ↓bx hvj, ite10, c, e, ih]
            simp [pickP, c]
          · simp (disch := omega) only [add_i0, cast_add1, cast_sub1, toNat120, i32_lit, i32_neg, i32_add, i32_sub, i32_mul, i32_nat, i32_le, i32_lt, i32_eq, inB_i, Int.toNat_natCast, mI_sI_eq, mI_sI_ne, mR_sR_eq, mR_sR_ne, mI_sR, mR_sI, mK_sI, mN_sI, mn_sI, mJ_sI, mK_sR, mN_sR, mn_sR, mJ_sR, mI_wI, mR_wI, mK_wI, mN_wI, mn_wI, mJ_wI, ↓bnd_of, ↓bndX_r, ↓bndX_l, ↓ap_of, bnd_of, bndX_r, bndX_l, if_true, if_false, ite_true, ite_false, not_true_eq_false, not_false_eq_true, Nat.reduceAdd, Nat.reduceMul, Nat.reduceEqDiff, Int.reduceToNat, Int.reduceNeg, Ilt_t, Ilt_f, Ile_t, Ile_f, Ieq_t, Ieq_f, Nlt_t, Nlt_f, Nle_t, Nle_f, Neq_t, Neq_f, or_true, true_or, or_false, false_or, and_true, true_and, and_false, false_and, ne_eq, or_self, and_self, decide_true, decide_false, Bool.false_eq_true, f_X12_picked_65, f_X12_picked_151, f_X12_picked_155, f_X12_picked_156, f_X12_picked_158, anyB, hL.o, a1, ↓bx eb, ↓bx hv, ↓bx hvj, ite10, c, e, ih]
            simp [pickP, c]
        · simp (disch := omega) only [add_i0, cast_add1, cast_sub1, toNat120, i32_lit, i32_neg, i32_add, i32_sub, i32_mul, i32_nat, i32_le, i32_lt, i32_eq, inB_i, Int.toNat_natCast, mI_sI_eq, mI_sI_ne, mR_sR_eq, mR_sR_ne, mI_sR, mR_sI, mK_sI, mN_sI, mn_sI, mJ_sI, mK_sR, mN_sR, mn_sR, mJ_sR, mI_wI, mR_wI, mK_wI, mN_wI, mn_wI, mJ_wI, ↓bnd_of, ↓bndX_r, ↓bndX_l, ↓ap_of, bnd_of, bndX_r, bndX_l, if_true, if_false, ite_true, ite_false, not_true_eq_false, not_false_eq_true, Nat.reduceAdd, Nat.reduceMul, Nat.reduceEqDiff, Int.reduceToNat, Int.reduceNeg, Ilt_t, Ilt_f, Ile_t, Ile_f, Ieq_t, Ieq_f, Nlt_t, Nlt_f, Nle_t, Nle_f, Neq_t, Neq_f, or_true, true_or, or_false, false_or, and_true, true_and, and_false, false_and, ne_eq, or_self, and_self, decide_true, decide_false, Bool.false_eq_true, f_X12_picked_65, f_X12_picked_151, f_X12_picked_155, f_X12_picked_156, f_X12_picked_158, anyB, hL.o, a1, ↓bx eb, ↓bx hv, ↓bx hvj, ite10, c, ih]
          simp [pickP, c]
    · have hpk : pickP A S.fu l h t j = false := by unfold pickP; simp [c]
      simp (disch := omega) only [add_i0, cast_add1, cast_sub1, toNat120, i32_lit, i32_neg, i32_add, i32_sub, i32_mul, i32_nat, i32_le, i32_lt, i32_eq, inB_i, Int.toNat_natCast, mI_sI_eq, mI_sI_ne, mR_sR_eq, mR_sR_ne, mI_sR, mR_sI, mK_sI, mN_sI, mn_sI, mJ_sI, mK_sR, mN_sR, mn_sR, mJ_sR, mI_wI, mR_wI, mK_wI, mN_wI, mn_wI, mJ_wI, ↓bnd_of, ↓bndX_r, ↓bndX_l, ↓ap_of, bnd_of, bndX_r, bndX_l, if_true, if_false, ite_true, ite_false, not_true_eq_false, not_false_eq_true, Nat.reduceAdd, Nat.reduceMul, Nat.reduceEqDiff, Int.reduceToNat, Int.reduceNeg, Ilt_t, Ilt_f, Ile_t, Ile_f, Ieq_t, Ieq_f, Nlt_t, Nlt_f, Nle_t, Nle_f, Neq_t, Neq_f, or_true, true_or, or_false, false_or, and_true, true_and, and_false, false_and, ne_eq, or_self, and_self, decide_true, decide_false, Bool.false_eq_true, f_X12_picked_65, f_X12_picked_158, anyB, hL.o, a1, ↓bx eb, ↓bx hv, ite10, c, hpk, ih]
theorem r_picked (hW : S.wf) (hV : RV M S A) (l z t : Int) (z1 : -2147483648 ≤ l) (z2 : l ≤ 2147483647) (z3 : -2147483648 ≤ z) (z4 : z ≤ 2147483647) (z5 : -2147483648 ≤ t) (z6 : t ≤ 2147483647) : ∃ v M', f_X12_picked 134 (i32 l) (i32 z) (i32 t) M = some (v, M') ∧ RA M M' (a_picked S A l z t) v := by
  generalize ha : a_picked S A l z t = ans
  unfold f_X12_picked
  refine ref_start hW hV (fun M0 hV0 hc0 => ?_)
  have hn := X12_isLeaf hV0 hW.1 l z1 z2
  have hf := X12_fail hV0.1 1
  have b := hW.1.2.1
  have hL := hV0.1
  unfold a_picked at ha
  by_cases d : 0 ≤ l ∧ l < S.nl
  · rw [if_pos d] at hn
    obtain ⟨l, rfl⟩ : ∃ k : Nat, l = k := ⟨l.toNat, by omega⟩
    simp only [Int.toNat_natCast] at ha
    have bz := St.b hV0.2.2.1 l 0
    by_cases e : 0 ≤ z ∧ z ≤ 3
    · rw [if_pos ⟨d, e⟩] at ha
      subst ha
      have hE := hV0.2.2
      have a1 := hE.2.1 l (by omega)
      have a3 := hE.2.2.2
      have H : ∀ (k j n : Nat) (x : Int32), j + k = A.rc → k < n → f_X12_picked_37 n 134 (i32 l) (i32 z) (i32 t) x (i32 j) M0 = some (pickS A S.fu l z t k j x, M0) := by
        intro k
        induction k with
        | zero =>
          intro j n x hj hn
          obtain ⟨n, rfl⟩ : ∃ m, n = m + 1 := ⟨n - 1, by omega⟩
          simp (disch := omega) only [add_i0, cast_add1, cast_sub1, toNat120, i32_lit, i32_neg, i32_add, i32_sub, i32_mul, i32_nat, i32_le, i32_lt, i32_eq, inB_i, Int.toNat_natCast, mI_sI_eq, mI_sI_ne, mR_sR_eq, mR_sR_ne, mI_sR, mR_sI, mK_sI, mN_sI, mn_sI, mJ_sI, mK_sR, mN_sR, mn_sR, mJ_sR, mI_wI, mR_wI, mK_wI, mN_wI, mn_wI, mJ_wI, ↓bnd_of, ↓bndX_r, ↓bndX_l, ↓ap_of, bnd_of, bndX_r, bndX_l, if_true, if_false, ite_true, ite_false, not_true_eq_false, not_false_eq_true, Nat.reduceAdd, Nat.reduceMul, Nat.reduceEqDiff, Int.reduceToNat, Int.reduceNeg, Ilt_t, Ilt_f, Ile_t, Ile_f, Ieq_t, Ieq_f, Nlt_t, Nlt_f, Nle_t, Nle_f, Neq_t, Neq_f, or_true, true_or, or_false, false_or, and_true, true_and, and_false, false_and, ne_eq, or_self, and_self, decide_true, decide_false, Bool.false_eq_true, f_X12_picked_37, pickS, lp, hL.o, a3]
        | succ k ih =>
          intro j n x hj hn
          obtain ⟨n, rfl⟩ : ∃ m, n = m + 1 := ⟨n - 1, by omega⟩
          have e1 := X12_firstOf hL hE (l := l) (by omega) j (by omega) (by omega)
          have fb := firstFrom_b (A.rp l) j (A.sz l) 0 0
          have eP : pickS A S.fu l z t (k + 1) j x = pickS A S.fu l z t k (j + 1) (if pickR A S.fu l z t j = true then x ||| (i32 1 <<< (i32 j &&& i32 31)) else x) := rfl
          rw [eP]
          unfold firstR at e1
          by_cases q : firstFrom (A.rp l) j (A.sz l) 0 0 = -1
          · rw [if_pos q] at e1
            have hp : pickR A S.fu l z t j = false := by unfold pickR; simp [q]
            have u : f_X12_picked_65 (f_X12_picked_37 n) FUEL 134 (i32 l) (i32 z) (i32 t) x (i32 j) (i32 (A.sz l)) (0 : Int32) (0 : Int32) (i32 (A.sz l)) M0 = f_X12_picked_37 n 134 (i32 l) (i32 z) (i32 t) x (i32 (j + 1 : Nat)) M0 := by
              obtain ⟨m, hm⟩ : ∃ m, FUEL = m + 1 := ⟨999999, rfl⟩
              rw [hm]
              by_cases c3 : z = 3
              · subst c3
                simp (disch := omega) only [add_i0, cast_add1, cast_sub1, toNat120, i32_lit, i32_neg, i32_add, i32_sub, i32_mul, i32_nat, i32_le, i32_lt, i32_eq, inB_i, Int.toNat_natCast, mI_sI_eq, mI_sI_ne, mR_sR_eq, mR_sR_ne, mI_sR, mR_sI, mK_sI, mN_sI, mn_sI, mJ_sI, mK_sR, mN_sR, mn_sR, mJ_sR, mI_wI, mR_wI, mK_wI, mN_wI, mn_wI, mJ_wI, ↓bnd_of, ↓bndX_r, ↓bndX_l, ↓ap_of, bnd_of, bndX_r, bndX_l, if_true, if_false, ite_true, ite_false, not_true_eq_false, not_false_eq_true, Nat.reduceAdd, Nat.reduceMul, Nat.reduceEqDiff, Int.reduceToNat, Int.reduceNeg, Ilt_t, Ilt_f, Ile_t, Ile_f, Ieq_t, Ieq_f, Nlt_t, Nlt_f, Nle_t, Nle_f, Neq_t, Neq_f, or_true, true_or, or_false, false_or, and_true, true_and, and_false, false_and, ne_eq, or_self, and_self, decide_true, decide_false, Bool.false_eq_true, f_X12_picked_65, f_X12_picked_164, f_X12_picked_184, f_X12_picked_211, f_X12_picked_212, hL.o, a1, or_i0]
              · simp (disch := omega) only [add_i0, cast_add1, cast_sub1, toNat120, i32_lit, i32_neg, i32_add, i32_sub, i32_mul, i32_nat, i32_le, i32_lt, i32_eq, inB_i, Int.toNat_natCast, mI_sI_eq, mI_sI_ne, mR_sR_eq, mR_sR_ne, mI_sR, mR_sI, mK_sI, mN_sI, mn_sI, mJ_sI, mK_sR, mN_sR, mn_sR, mJ_sR, mI_wI, mR_wI, mK_wI, mN_wI, mn_wI, mJ_wI, ↓bnd_of, ↓bndX_r, ↓bndX_l, ↓ap_of, bnd_of, bndX_r, bndX_l, if_true, if_false, ite_true, ite_false, not_true_eq_false, not_false_eq_true, Nat.reduceAdd, Nat.reduceMul, Nat.reduceEqDiff, Int.reduceToNat, Int.reduceNeg, Ilt_t, Ilt_f, Ile_t, Ile_f, Ieq_t, Ieq_f, Nlt_t, Nlt_f, Nle_t, Nle_f, Neq_t, Neq_f, or_true, true_or, or_false, false_or, and_true, true_and, and_false, false_and, ne_eq, or_self, and_self, decide_true, decide_false, Bool.false_eq_true, f_X12_picked_65, f_X12_picked_164, f_X12_picked_184, f_X12_picked_211, f_X12_picked_212, hL.o, a1, or_i0]
            simp (disch := omega) only [add_i0, cast_add1, cast_sub1, toNat120, i32_lit, i32_neg, i32_add, i32_sub, i32_mul, i32_nat, i32_le, i32_lt, i32_eq, inB_i, Int.toNat_natCast, mI_sI_eq, mI_sI_ne, mR_sR_eq, mR_sR_ne, mI_sR, mR_sI, mK_sI, mN_sI, mn_sI, mJ_sI, mK_sR, mN_sR, mn_sR, mJ_sR, mI_wI, mR_wI, mK_wI, mN_wI, mn_wI, mJ_wI, ↓bnd_of, ↓bndX_r, ↓bndX_l, ↓ap_of, bnd_of, bndX_r, bndX_l, if_true, if_false, ite_true, ite_false, not_true_eq_false, not_false_eq_true, Nat.reduceAdd, Nat.reduceMul, Nat.reduceEqDiff, Int.reduceToNat, Int.reduceNeg, Ilt_t, Ilt_f, Ile_t, Ile_f, Ieq_t, Ieq_f, Nlt_t, Nlt_f, Nle_t, Nle_f, Neq_t, Neq_f, or_true, true_or, or_false, false_or, and_true, true_and, and_false, false_and, ne_eq, or_self, and_self, decide_true, decide_false, Bool.false_eq_true, f_X12_picked_37, hL.o, a3, ↓bx e1]
            have u2 := u
            simp only [i32_lit] at u2
            rw [u2, ih (j + 1) n _ (by omega) (by omega), hp]
            rfl
          · rw [if_neg q] at e1
            obtain ⟨p, hp⟩ : ∃ p : Nat, firstFrom (A.rp l) j (A.sz l) 0 0 = p := ⟨(firstFrom (A.rp l) j (A.sz l) 0 0).toNat, by omega⟩
            rw [hp] at e1 fb
            have hbl := behF_le (A.rp l) 0 (A.sz l - (p + 1)) (p + 1)
            have hR : pickR A S.fu l z t j = decide (¬ (anyB (pickP A S.fu l z t) (behF (A.rp l) 0 (A.sz l - (p + 1)) (p + 1) - p) p = true ↔ z = 3)) := by
              unfold pickR
              rw [hp]
              simp
            have u := X12_pickIn hW hV0 (l := l) (by omega) (f_X12_picked_37 n) z t (by omega) (by omega) z5 z6 x j p (by omega) (by omega) (behF (A.rp l) 0 (A.sz l - (p + 1)) (p + 1) - p) p FUEL 0 0 (by omega) (by unfold FUEL; omega) (by omega) (by omega) (by omega) (by omega)
            simp (disch := omega) only [add_i0, cast_add1, cast_sub1, toNat120, i32_lit, i32_neg, i32_add, i32_sub, i32_mul, i32_nat, i32_le, i32_lt, i32_eq, inB_i, Int.toNat_natCast, mI_sI_eq, mI_sI_ne, mR_sR_eq, mR_sR_ne, mI_sR, mR_sI, mK_sI, mN_sI, mn_sI, mJ_sI, mK_sR, mN_sR, mn_sR, mJ_sR, mI_wI, mR_wI, mK_wI, mN_wI, mn_wI, mJ_wI, ↓bnd_of, ↓bndX_r, ↓bndX_l, ↓ap_of, bnd_of, bndX_r, bndX_l, if_true, if_false, ite_true, ite_false, not_true_eq_false, not_false_eq_true, Nat.reduceAdd, Nat.reduceMul, Nat.reduceEqDiff, Int.reduceToNat, Int.reduceNeg, Ilt_t, Ilt_f, Ile_t, Ile_f, Ieq_t, Ieq_f, Nlt_t, Nlt_f, Nle_t, Nle_f, Neq_t, Neq_f, or_true, true_or, or_false, false_or, and_true, true_and, and_false, false_and, ne_eq, or_self, and_self, decide_true, decide_false, Bool.false_eq_true, f_X12_picked_37, hL.o, a3, ↓bx e1]
            rw [u, ih (j + 1) n _ (by omega) (by omega), hR]
            congr 3
            by_cases c : (anyB (pickP A S.fu l z t) (behF (A.rp l) 0 (A.sz l - (p + 1)) (p + 1) - p) p = true ↔ z = 3)
            · by_cases c3 : z = 3
              · simp [c3]
              · simp [c3] at c ⊢
            · by_cases c3 : z = 3
              · simp [c3] at c ⊢
              · simp [c3] at c ⊢
      refine ⟨_, _, ?_, RA_1 hc0 _⟩
      have h0 := H A.rc 0 FUEL (i32 0) (by omega) (by unfold FUEL; omega)
      simp (disch := omega) only [add_i0, cast_add1, cast_sub1, toNat120, i32_lit, i32_neg, i32_add, i32_sub, i32_mul, i32_nat, i32_le, i32_lt, i32_eq, inB_i, Int.toNat_natCast, mI_sI_eq, mI_sI_ne, mR_sR_eq, mR_sR_ne, mI_sR, mR_sI, mK_sI, mN_sI, mn_sI, mJ_sI, mK_sR, mN_sR, mn_sR, mJ_sR, mI_wI, mR_wI, mK_wI, mN_wI, mn_wI, mJ_wI, ↓bnd_of, ↓bndX_r, ↓bndX_l, ↓ap_of, bnd_of, bndX_r, bndX_l, if_true, if_false, ite_true, ite_false, not_true_eq_false, not_false_eq_true, Nat.reduceAdd, Nat.reduceMul, Nat.reduceEqDiff, Int.reduceToNat, Int.reduceNeg, Ilt_t, Ilt_f, Ile_t, Ile_f, Ieq_t, Ieq_f, Nlt_t, Nlt_f, Nle_t, Nle_f, Neq_t, Neq_f, or_true, true_or, or_false, false_or, and_true, true_and, and_false, false_and, ne_eq, or_self, and_self, decide_true, decide_false, Bool.false_eq_true, hL.o, ↓bx hn, ↓isIn_g, i32_toInt, i64_0, i64_3, ite10]
      exact h0
    · rw [if_neg (fun q => e q.2)] at ha
      subst ha
      refine ⟨_, _, ?_, RA_f 1 (i32 0)⟩
      simp (disch := omega) only [add_i0, cast_add1, cast_sub1, toNat120, i32_lit, i32_neg, i32_add, i32_sub, i32_mul, i32_nat, i32_le, i32_lt, i32_eq, inB_i, Int.toNat_natCast, mI_sI_eq, mI_sI_ne, mR_sR_eq, mR_sR_ne, mI_sR, mR_sI, mK_sI, mN_sI, mn_sI, mJ_sI, mK_sR, mN_sR, mn_sR, mJ_sR, mI_wI, mR_wI, mK_wI, mN_wI, mn_wI, mJ_wI, ↓bnd_of, ↓bndX_r, ↓bndX_l, ↓ap_of, bnd_of, bndX_r, bndX_l, if_true, if_false, ite_true, ite_false, not_true_eq_false, not_false_eq_true, Nat.reduceAdd, Nat.reduceMul, Nat.reduceEqDiff, Int.reduceToNat, Int.reduceNeg, Ilt_t, Ilt_f, Ile_t, Ile_f, Ieq_t, Ieq_f, Nlt_t, Nlt_f, Nle_t, Nle_f, Neq_t, Neq_f, or_true, true_or, or_false, false_or, and_true, true_and, and_false, false_and, ne_eq, or_self, and_self, decide_true, decide_false, Bool.false_eq_true, f_X12_picked_25, hL.o, ↓bx hn, ↓isIn_g, i32_toInt, i64_0, i64_3, ite10, e, hf]
      rfl
  · rw [if_neg d] at hn
    rw [if_neg (fun q => d q.1)] at ha
    subst ha
    refine ⟨_, _, ?_, RA_f 1 (i32 0)⟩
    simp (disch := omega) only [add_i0, cast_add1, cast_sub1, toNat120, i32_lit, i32_neg, i32_add, i32_sub, i32_mul, i32_nat, i32_le, i32_lt, i32_eq, inB_i, Int.toNat_natCast, mI_sI_eq, mI_sI_ne, mR_sR_eq, mR_sR_ne, mI_sR, mR_sI, mK_sI, mN_sI, mn_sI, mJ_sI, mK_sR, mN_sR, mn_sR, mJ_sR, mI_wI, mR_wI, mK_wI, mN_wI, mn_wI, mJ_wI, ↓bnd_of, ↓bndX_r, ↓bndX_l, ↓ap_of, bnd_of, bndX_r, bndX_l, if_true, if_false, ite_true, ite_false, not_true_eq_false, not_false_eq_true, Nat.reduceAdd, Nat.reduceMul, Nat.reduceEqDiff, Int.reduceToNat, Int.reduceNeg, Ilt_t, Ilt_f, Ile_t, Ile_f, Ieq_t, Ieq_f, Nlt_t, Nlt_f, Nle_t, Nle_f, Neq_t, Neq_f, or_true, true_or, or_false, false_or, and_true, true_and, and_false, false_and, ne_eq, or_self, and_self, decide_true, decide_false, Bool.false_eq_true, f_X12_picked_25, hL.o, ↓bx hn, hf]
    rfl
end
