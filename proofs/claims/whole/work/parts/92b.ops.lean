/-! field, name, leaf, skip, pages -/
theorem isIn_g {β : Type} (x : Int32) (a b : Int64) (M : Mem) (f : Int32 → Mem → Option β) : bnd (f_X12_isIn x.toInt64 a b M) f = f (if a.toInt ≤ x.toInt ∧ x.toInt ≤ b.toInt then i32 1 else i32 0) M := by
  apply bx
  unfold f_X12_isIn
  have h1 : (lg_cmp x.toInt64 a < 0) = (x.toInt < a.toInt) := by rw [lg_cmp_lt, Int64.lt_iff_toInt_lt, Int32.toInt_toInt64]
  have h2 : (0 < lg_cmp x.toInt64 b) = (b.toInt < x.toInt) := by rw [lg_cmp_gt, Int64.lt_iff_toInt_lt, Int32.toInt_toInt64]
  simp only [h1, h2]
  simp only [i32_lit]
  (first | done | with_reducible rfl | ((repeat' split) <;> (first | with_reducible rfl | (exfalso; omega) | grind)))
theorem i64_0 : (0 : Int64).toInt = 0 := rfl
theorem i64_1 : (1 : Int64).toInt = 1 := rfl
theorem i64_2 : (2 : Int64).toInt = 2 := rfl
theorem i64_3 : (3 : Int64).toInt = 3 := rfl
theorem i64_7 : (7 : Int64).toInt = 7 := rfl
theorem i64_9 : (9 : Int64).toInt = 9 := rfl
theorem i64_10 : (10 : Int64).toInt = 10 := rfl
theorem i64_31 : (31 : Int64).toInt = 31 := rfl
theorem i64_120 : (120 : Int64).toInt = 120 := rfl
theorem i64_999 : (999 : Int64).toInt = 999 := rfl
theorem toNat4 (l j : Nat) : (4 * (l : Int) + (j : Int)).toNat = 4 * l + j := by omega
theorem toNat4' (l j : Nat) : ((l : Int) * 4 + (j : Int)).toNat = 4 * l + j := by omega
def digS (v : Int) : Int := if v = 0 then 0 else if v ≤ 1 then 1 else if v ≤ 3 then 2 else if v ≤ 7 then 3 else 4
theorem X11_binaryDigits (M : Mem) (v : Int) (h0 : 0 ≤ v) (h9 : v ≤ 9) : f_X11_binaryDigits (i32 v) M = some (i32 (digS v), M) := by
  have hc : v = 0 ∨ v = 1 ∨ v = 2 ∨ v = 3 ∨ v = 4 ∨ v = 5 ∨ v = 6 ∨ v = 7 ∨ v = 8 ∨ v = 9 := by omega
  rcases hc with rfl | rfl | rfl | rfl | rfl | rfl | rfl | rfl | rfl | rfl
  · exact (rfl : f_X11_binaryDigits_4 (999995 + 5) 0 (i32 0) M = some (i32 0, M))
  · exact (rfl : f_X11_binaryDigits_4 (999995 + 5) 0 (i32 1) M = some (i32 1, M))
  · exact (rfl : f_X11_binaryDigits_4 (999995 + 5) 0 (i32 2) M = some (i32 2, M))
  · exact (rfl : f_X11_binaryDigits_4 (999995 + 5) 0 (i32 3) M = some (i32 2, M))
  · exact (rfl : f_X11_binaryDigits_4 (999995 + 5) 0 (i32 4) M = some (i32 3, M))
  · exact (rfl : f_X11_binaryDigits_4 (999995 + 5) 0 (i32 5) M = some (i32 3, M))
  · exact (rfl : f_X11_binaryDigits_4 (999995 + 5) 0 (i32 6) M = some (i32 3, M))
  · exact (rfl : f_X11_binaryDigits_4 (999995 + 5) 0 (i32 7) M = some (i32 3, M))
  · exact (rfl : f_X11_binaryDigits_4 (999995 + 5) 0 (i32 8) M = some (i32 4, M))
  · exact (rfl : f_X11_binaryDigits_4 (999995 + 5) 0 (i32 9) M = some (i32 4, M))
theorem X12_digitsOf (M : Mem) (v : Int) (h0 : 0 ≤ v) (h9 : v ≤ 9) : f_X12_digitsOf (i32 v) M = some (i32 (digS v), M) := by
  have hc : v = 0 ∨ v = 1 ∨ v = 2 ∨ v = 3 ∨ v = 4 ∨ v = 5 ∨ v = 6 ∨ v = 7 ∨ v = 8 ∨ v = 9 := by omega
  rcases hc with rfl | rfl | rfl | rfl | rfl | rfl | rfl | rfl | rfl | rfl
  · exact (rfl : f_X12_digitsOf_2 (999995 + 5) (i32 0) 0 M = some (i32 0, M))
  · exact (rfl : f_X12_digitsOf_2 (999995 + 5) (i32 1) 0 M = some (i32 1, M))
  · exact (rfl : f_X12_digitsOf_2 (999995 + 5) (i32 2) 0 M = some (i32 2, M))
  · exact (rfl : f_X12_digitsOf_2 (999995 + 5) (i32 3) 0 M = some (i32 2, M))
  · exact (rfl : f_X12_digitsOf_2 (999995 + 5) (i32 4) 0 M = some (i32 3, M))
  · exact (rfl : f_X12_digitsOf_2 (999995 + 5) (i32 5) 0 M = some (i32 3, M))
  · exact (rfl : f_X12_digitsOf_2 (999995 + 5) (i32 6) 0 M = some (i32 3, M))
  · exact (rfl : f_X12_digitsOf_2 (999995 + 5) (i32 7) 0 M = some (i32 3, M))
  · exact (rfl : f_X12_digitsOf_2 (999995 + 5) (i32 8) 0 M = some (i32 4, M))
  · exact (rfl : f_X12_digitsOf_2 (999995 + 5) (i32 9) 0 M = some (i32 4, M))
theorem firstFrom_b (rp : Nat → Int) (r : Int) : ∀ (k j : Nat) (a : Int), firstFrom rp r k j a = -1 ∨ ((j : Int) ≤ firstFrom rp r k j a ∧ firstFrom rp r k j a < j + k) := by
  intro k
  induction k with
  | zero => intro j a; left; rfl
  | succ k ih =>
    intro j a
    unfold firstFrom
    have h1 := ih (j + 1) (a + 1)
    have h2 := ih (j + 1) a
    repeat' split
    · right; omega
    · omega
    · omega
theorem RA.tr {M M0 M' : Mem} {ans : Nat ⊕ Int32} {r : Int32} (g : Scr M M0) (h : RA M0 M' ans r) : RA M M' ans r := ⟨g.tr h.1, h.2⟩
theorem RA_1 {M : Mem} (h : mI M 134 2 = i32 0) (v : Int32) : RA M M (.inr v) v := ⟨Scr.rf M, h, rfl⟩
theorem RA_f {M : Mem} (k : Nat) (r : Int32) : RA M (sI M 134 2 (i32 k)) (.inl k) r := RA_fail (Scr.rf M) k r
/-- the reference's calls begin so -/
theorem ref_start {M : Mem} {S : Sc} {A : St} {ans : Nat ⊕ Int32} {F : Mem → Option (Int32 × Mem)} (hW : S.wf) (hV : RV M S A) (H : ∀ M0, RV M0 S A → mI M0 134 2 = i32 0 → ∃ r M', F M0 = some (r, M') ∧ RA M0 M' ans r) : ∃ r M', (if mK M 134 = 13 then ap (sI M 134 2 (0 : Int32)) F else none) = some (r, M') ∧ RA M M' ans r := by
  obtain ⟨r, M', h1, h2⟩ := H (sI M 134 2 (0 : Int32)) (hV.scr hW.1 (zero_scr M 0)) mI_sI_eq
  refine ⟨r, M', ?_, h2.tr (zero_scr M 0)⟩
  rw [if_pos hV.1.o.1]
  exact h1
def a_skip (S : Sc) (A : St) (l r w : Int) : Nat ⊕ Int32 := if (0 ≤ l ∧ l < S.nl) ∧ (0 ≤ r ∧ r < A.rc) ∧ (0 ≤ w ∧ w ≤ 1) then (if firstFrom (A.rp l.toNat) r (A.sz l.toNat) 0 0 = -1 then .inr (i32 (-1)) else if w = 0 then .inr (i32 (firstFrom (A.rp l.toNat) r (A.sz l.toNat) 0 0)) else .inr (i32 (behF (A.rp l.toNat) 0 (A.sz l.toNat - (firstFrom (A.rp l.toNat) r (A.sz l.toNat) 0 0 + 1).toNat) (firstFrom (A.rp l.toNat) r (A.sz l.toNat) 0 0 + 1).toNat - firstFrom (A.rp l.toNat) r (A.sz l.toNat) 0 0))) else .inl 1
def a_name (S : Sc) (f i : Int) : Nat ⊕ Int32 := if (0 ≤ f ∧ f < S.nf) ∧ (0 ≤ i ∧ i < S.ln f.toNat) then .inr (i32 (S.nm (4 * f.toNat + i.toNat))) else .inl 1
def a_leaf (S : Sc) (A : St) (l w : Int) : Nat ⊕ Int32 := if 0 ≤ l ∧ l < S.nl then (if w = 0 then .inr (i32 (S.fo l.toNat)) else if w = 1 then .inr (i32 (A.sz l.toNat)) else if w = 2 then .inr (runs (A.rp l.toNat) (A.sz l.toNat) 0 (i32 0)) else if w = 3 then .inr (runs (A.df l.toNat) (A.sz l.toNat) 0 (i32 0)) else if w = 4 then .inr (i32 (digS (S.sr (S.fo l.toNat)))) else if w = 5 then .inr (i32 (digS (S.sd (S.fo l.toNat)))) else .inl 1) else .inl 1
def a_field (S : Sc) (f w : Int) : Nat ⊕ Int32 := if 0 ≤ f ∧ f < S.nf then (if w = 0 then .inr (i32 (S.kd f.toNat)) else if w = 1 then .inr (i32 (S.lf f.toNat)) else if w = 2 then .inr (i32 (S.gr f.toNat)) else if w = 3 then .inr (i32 (S.sd f.toNat)) else if w = 4 then .inr (i32 (S.sr f.toNat)) else if w = 5 then .inr (i32 (S.ln f.toNat)) else if w = 6 then .inr (S.kids f.toNat) else .inl 1) else .inl 1
section
variable {M : Mem} {s : Nat} {S : Sc} {A : St}
theorem c_name (h : RO M s S A) (f i : Int) (z1 : -2147483648 ≤ f) (z2 : f ≤ 2147483647) (z3 : -2147483648 ≤ i) (z4 : i ≤ 2147483647) : f_X11_name 1 (i32 f) (i32 i) M = some (a_name S f i, M) := by
  obtain ⟨hW, hV, -, h8⟩ := h
  have hn := X11_needField hV h8 hW.1 f z1 z2
  have b := hW.1.1
  obtain ⟨hL, hc, hs, hC, hA, hr, -⟩ := hV
  obtain ⟨c0, c1, ck, cg, cl, cd, cr, cn, cm, -⟩ := hC
  unfold a_name
  by_cases d : 0 ≤ f ∧ f < S.nf
  · rw [if_pos d] at hn
    obtain ⟨f, rfl⟩ : ∃ k : Nat, f = k := ⟨f.toNat, by omega⟩
    simp only [Int.toNat_natCast]
    have bn := hW.1.2.2.2.2.2.2.2.1 f
    by_cases e : 0 ≤ i ∧ i < S.ln f
    · obtain ⟨i, rfl⟩ : ∃ k : Nat, i = k := ⟨i.toNat, by omega⟩
      simp (disch := omega) only [add_i0, cast_add1, cast_sub1, toNat120, i32_lit, i32_neg, i32_add, i32_sub, i32_mul, i32_nat, i32_le, i32_lt, i32_eq, inB_i, Int.toNat_natCast, mI_sI_eq, mI_sI_ne, mR_sR_eq, mR_sR_ne, mI_sR, mR_sI, mK_sI, mN_sI, mn_sI, mJ_sI, mK_sR, mN_sR, mn_sR, mJ_sR, mI_wI, mR_wI, mK_wI, mN_wI, mn_wI, mJ_wI, ↓bnd_of, ↓bndX_r, ↓bndX_l, ↓ap_of, bnd_of, bndX_r, bndX_l, if_true, if_false, ite_true, ite_false, not_true_eq_false, not_false_eq_true, Nat.reduceAdd, Nat.reduceMul, Nat.reduceEqDiff, Int.reduceToNat, Int.reduceNeg, Ilt_t, Ilt_f, Ile_t, Ile_f, Ieq_t, Ieq_f, Nlt_t, Nlt_f, Nle_t, Nle_f, Neq_t, Neq_f, or_true, true_or, or_false, false_or, and_true, true_and, and_false, false_and, ne_eq, or_self, and_self, decide_true, decide_false, Bool.false_eq_true, f_X11_name, f_X11_name_22, hL.o, ↓bxX hn, h8, hs.o, cn, toNat4', cm]
    · simp (disch := omega) only [add_i0, cast_add1, cast_sub1, toNat120, i32_lit, i32_neg, i32_add, i32_sub, i32_mul, i32_nat, i32_le, i32_lt, i32_eq, inB_i, Int.toNat_natCast, mI_sI_eq, mI_sI_ne, mR_sR_eq, mR_sR_ne, mI_sR, mR_sI, mK_sI, mN_sI, mn_sI, mJ_sI, mK_sR, mN_sR, mn_sR, mJ_sR, mI_wI, mR_wI, mK_wI, mN_wI, mn_wI, mJ_wI, ↓bnd_of, ↓bndX_r, ↓bndX_l, ↓ap_of, bnd_of, bndX_r, bndX_l, if_true, if_false, ite_true, ite_false, not_true_eq_false, not_false_eq_true, Nat.reduceAdd, Nat.reduceMul, Nat.reduceEqDiff, Int.reduceToNat, Int.reduceNeg, Ilt_t, Ilt_f, Ile_t, Ile_f, Ieq_t, Ieq_f, Nlt_t, Nlt_f, Nle_t, Nle_f, Neq_t, Neq_f, or_true, true_or, or_false, false_or, and_true, true_and, and_false, false_and, ne_eq, or_self, and_self, decide_true, decide_false, Bool.false_eq_true, f_X11_name, f_X11_name_22, hL.o, ↓bxX hn, h8, hs.o, cn]
      (first | done | with_reducible rfl | ((repeat' split) <;> (first | with_reducible rfl | (exfalso; omega) | grind)))
  · rw [if_neg d] at hn
    simp (disch := omega) only [add_i0, cast_add1, cast_sub1, toNat120, i32_lit, i32_neg, i32_add, i32_sub, i32_mul, i32_nat, i32_le, i32_lt, i32_eq, inB_i, Int.toNat_natCast, mI_sI_eq, mI_sI_ne, mR_sR_eq, mR_sR_ne, mI_sR, mR_sI, mK_sI, mN_sI, mn_sI, mJ_sI, mK_sR, mN_sR, mn_sR, mJ_sR, mI_wI, mR_wI, mK_wI, mN_wI, mn_wI, mJ_wI, ↓bnd_of, ↓bndX_r, ↓bndX_l, ↓ap_of, bnd_of, bndX_r, bndX_l, if_true, if_false, ite_true, ite_false, not_true_eq_false, not_false_eq_true, Nat.reduceAdd, Nat.reduceMul, Nat.reduceEqDiff, Int.reduceToNat, Int.reduceNeg, Ilt_t, Ilt_f, Ile_t, Ile_f, Ieq_t, Ieq_f, Nlt_t, Nlt_f, Nle_t, Nle_f, Neq_t, Neq_f, or_true, true_or, or_false, false_or, and_true, true_and, and_false, false_and, ne_eq, or_self, and_self, decide_true, decide_false, Bool.false_eq_true, f_X11_name, hL.o, ↓bxL hn, d]
theorem r_name (hW : S.wf) (hV : RV M S A) (f i : Int) (z1 : -2147483648 ≤ f) (z2 : f ≤ 2147483647) (z3 : -2147483648 ≤ i) (z4 : i ≤ 2147483647) : ∃ r M', f_X12_name 134 (i32 f) (i32 i) M = some (r, M') ∧ RA M M' (a_name S f i) r := by
  generalize ha : a_name S f i = ans
  unfold f_X12_name
  refine ref_start hW hV (fun M0 hV0 hc0 => ?_)
  have hn := X12_isField hV0 hW.1 f z1 z2
  have hf := X12_fail hV0.1 1
  have b := hW.1.1
  have hL := hV0.1
  obtain ⟨c0, c1, ck, cg, cl, cd, cr, cn, cm, -⟩ := hV0.2.1
  unfold a_name at ha
  by_cases d : 0 ≤ f ∧ f < S.nf
  · rw [if_pos d] at hn
    obtain ⟨f, rfl⟩ : ∃ k : Nat, f = k := ⟨f.toNat, by omega⟩
    simp only [Int.toNat_natCast] at ha
    have bn := hW.1.2.2.2.2.2.2.2.1 f
    have cn1 := cn f (by omega)
    by_cases e : 0 ≤ i ∧ i < S.ln f
    · rw [if_pos ⟨by omega, e⟩] at ha
      obtain ⟨i, rfl⟩ : ∃ k : Nat, i = k := ⟨i.toNat, by omega⟩
      have cm1 := cm f i (by omega) (by omega)
      subst ha
      refine ⟨_, _, ?_, RA_1 hc0 _⟩
      simp (disch := omega) only [add_i0, cast_add1, cast_sub1, toNat120, i32_lit, i32_neg, i32_add, i32_sub, i32_mul, i32_nat, i32_le, i32_lt, i32_eq, inB_i, Int.toNat_natCast, mI_sI_eq, mI_sI_ne, mR_sR_eq, mR_sR_ne, mI_sR, mR_sI, mK_sI, mN_sI, mn_sI, mJ_sI, mK_sR, mN_sR, mn_sR, mJ_sR, mI_wI, mR_wI, mK_wI, mN_wI, mn_wI, mJ_wI, ↓bnd_of, ↓bndX_r, ↓bndX_l, ↓ap_of, bnd_of, bndX_r, bndX_l, if_true, if_false, ite_true, ite_false, not_true_eq_false, not_false_eq_true, Nat.reduceAdd, Nat.reduceMul, Nat.reduceEqDiff, Int.reduceToNat, Int.reduceNeg, Ilt_t, Ilt_f, Ile_t, Ile_f, Ieq_t, Ieq_f, Nlt_t, Nlt_f, Nle_t, Nle_f, Neq_t, Neq_f, or_true, true_or, or_false, false_or, and_true, true_and, and_false, false_and, ne_eq, or_self, and_self, decide_true, decide_false, Bool.false_eq_true, f_X12_name_44, hL.o, ↓bx hn, ↓isIn_g, cn1, i32_toInt, Int32.toInt_toInt64, i64_0, ite10, toNat4, cm1]
    · rw [if_neg (by omega)] at ha
      subst ha
      refine ⟨_, _, ?_, RA_f 1 (i32 0)⟩
      simp (disch := omega) only [add_i0, cast_add1, cast_sub1, toNat120, i32_lit, i32_neg, i32_add, i32_sub, i32_mul, i32_nat, i32_le, i32_lt, i32_eq, inB_i, Int.toNat_natCast, mI_sI_eq, mI_sI_ne, mR_sR_eq, mR_sR_ne, mI_sR, mR_sI, mK_sI, mN_sI, mn_sI, mJ_sI, mK_sR, mN_sR, mn_sR, mJ_sR, mI_wI, mR_wI, mK_wI, mN_wI, mn_wI, mJ_wI, ↓bnd_of, ↓bndX_r, ↓bndX_l, ↓ap_of, bnd_of, bndX_r, bndX_l, if_true, if_false, ite_true, ite_false, not_true_eq_false, not_false_eq_true, Nat.reduceAdd, Nat.reduceMul, Nat.reduceEqDiff, Int.reduceToNat, Int.reduceNeg, Ilt_t, Ilt_f, Ile_t, Ile_f, Ieq_t, Ieq_f, Nlt_t, Nlt_f, Nle_t, Nle_f, Neq_t, Neq_f, or_true, true_or, or_false, false_or, and_true, true_and, and_false, false_and, ne_eq, or_self, and_self, decide_true, decide_false, Bool.false_eq_true, f_X12_name_44, hL.o, ↓bx hn, ↓isIn_g, cn1, i32_toInt, Int32.toInt_toInt64, i64_0, ite10, hf]
      (first | done | with_reducible rfl | ((repeat' split) <;> (first | with_reducible rfl | (exfalso; omega) | grind)))
  · rw [if_neg d] at hn
    rw [if_neg (by omega)] at ha
    subst ha
    refine ⟨_, _, ?_, RA_f 1 (i32 0)⟩
    simp (disch := omega) only [add_i0, cast_add1, cast_sub1, toNat120, i32_lit, i32_neg, i32_add, i32_sub, i32_mul, i32_nat, i32_le, i32_lt, i32_eq, inB_i, Int.toNat_natCast, mI_sI_eq, mI_sI_ne, mR_sR_eq, mR_sR_ne, mI_sR, mR_sI, mK_sI, mN_sI, mn_sI, mJ_sI, mK_sR, mN_sR, mn_sR, mJ_sR, mI_wI, mR_wI, mK_wI, mN_wI, mn_wI, mJ_wI, ↓bnd_of, ↓bndX_r, ↓bndX_l, ↓ap_of, bnd_of, bndX_r, bndX_l, if_true, if_false, ite_true, ite_false, not_true_eq_false, not_false_eq_true, Nat.reduceAdd, Nat.reduceMul, Nat.reduceEqDiff, Int.reduceToNat, Int.reduceNeg, Ilt_t, Ilt_f, Ile_t, Ile_f, Ieq_t, Ieq_f, Nlt_t, Nlt_f, Nle_t, Nle_f, Neq_t, Neq_f, or_true, true_or, or_false, false_or, and_true, true_and, and_false, false_and, ne_eq, or_self, and_self, decide_true, decide_false, Bool.false_eq_true, f_X12_name_44, hL.o, ↓bx hn, hf]
    rfl
theorem c_skip (h : RO M s S A) (l r w : Int) (z1 : -2147483648 ≤ l) (z2 : l ≤ 2147483647) (z3 : -2147483648 ≤ r) (z4 : r ≤ 2147483647) (z5 : -2147483648 ≤ w) (z6 : w ≤ 2147483647) : f_X11_skip 1 (i32 l) (i32 r) (i32 w) M = some (a_skip S A l r w, M) := by
  obtain ⟨hW, hV, -, h8⟩ := h
  have hn := X11_needLeaf hV h8 hW.1 l z1 z2
  have hm := X11_needRecord hV r z3 z4
  have b := hW.1.2.1
  obtain ⟨hL, hc, hs, hC, hA, hr, -⟩ := hV
  have hcol := hc.2.2.2.2.2.2.2.2.2.2
  simp only [Nat.reduceSub] at hcol
  unfold a_skip
  by_cases d : 0 ≤ l ∧ l < S.nl
  · rw [if_pos d] at hn
    obtain ⟨l, rfl⟩ : ∃ k : Nat, l = k := ⟨l.toNat, by omega⟩
    simp only [Int.toNat_natCast]
    by_cases d2 : 0 ≤ r ∧ r < A.rc
    · rw [if_pos d2] at hm
      have b1 := St.b hA.1 l 0
      have e1 := X2_firstOf hc hA (l := l) (by omega) r (by omega) (by omega)
      have fb := firstFrom_b (A.rp l) r (A.sz l) 0 0
      have e2 := fun h1 => X2_behind hc hA (l := l) (by omega) (firstFrom (A.rp l) r (A.sz l) 0 0) 0 (by omega) h1 (by omega) (by omega)
      by_cases w0 : w = 0
      · subst w0
        simp (disch := omega) only [add_i0, cast_add1, cast_sub1, toNat120, i32_lit, i32_neg, i32_add, i32_sub, i32_mul, i32_nat, i32_le, i32_lt, i32_eq, inB_i, Int.toNat_natCast, mI_sI_eq, mI_sI_ne, mR_sR_eq, mR_sR_ne, mI_sR, mR_sI, mK_sI, mN_sI, mn_sI, mJ_sI, mK_sR, mN_sR, mn_sR, mJ_sR, mI_wI, mR_wI, mK_wI, mN_wI, mn_wI, mJ_wI, ↓bnd_of, ↓bndX_r, ↓bndX_l, ↓ap_of, bnd_of, bndX_r, bndX_l, if_true, if_false, ite_true, ite_false, not_true_eq_false, not_false_eq_true, Nat.reduceAdd, Nat.reduceMul, Nat.reduceEqDiff, Int.reduceToNat, Int.reduceNeg, Ilt_t, Ilt_f, Ile_t, Ile_f, Ieq_t, Ieq_f, Nlt_t, Nlt_f, Nle_t, Nle_f, Neq_t, Neq_f, or_true, true_or, or_false, false_or, and_true, true_and, and_false, false_and, ne_eq, or_self, and_self, decide_true, decide_false, Bool.false_eq_true, f_X11_skip, f_X11_skip_29, hL.o, ↓bxX hn, ↓bxX hm, hcol, hc, e1]
        (first | done | with_reducible rfl | ((repeat' split) <;> (first | with_reducible rfl | (exfalso; omega) | grind)))
      · by_cases w1 : w = 1
        · subst w1
          by_cases q : firstFrom (A.rp l) r (A.sz l) 0 0 = -1
          · simp (disch := omega) only [add_i0, cast_add1, cast_sub1, toNat120, i32_lit, i32_neg, i32_add, i32_sub, i32_mul, i32_nat, i32_le, i32_lt, i32_eq, inB_i, Int.toNat_natCast, mI_sI_eq, mI_sI_ne, mR_sR_eq, mR_sR_ne, mI_sR, mR_sI, mK_sI, mN_sI, mn_sI, mJ_sI, mK_sR, mN_sR, mn_sR, mJ_sR, mI_wI, mR_wI, mK_wI, mN_wI, mn_wI, mJ_wI, ↓bnd_of, ↓bndX_r, ↓bndX_l, ↓ap_of, bnd_of, bndX_r, bndX_l, if_true, if_false, ite_true, ite_false, not_true_eq_false, not_false_eq_true, Nat.reduceAdd, Nat.reduceMul, Nat.reduceEqDiff, Int.reduceToNat, Int.reduceNeg, Ilt_t, Ilt_f, Ile_t, Ile_f, Ieq_t, Ieq_f, Nlt_t, Nlt_f, Nle_t, Nle_f, Neq_t, Neq_f, or_true, true_or, or_false, false_or, and_true, true_and, and_false, false_and, ne_eq, or_self, and_self, decide_true, decide_false, Bool.false_eq_true, f_X11_skip, f_X11_skip_29, hL.o, ↓bxX hn, ↓bxX hm, hcol, hc, e1, q]
          · have e3 := e2 (by omega)
            simp (disch := omega) only [add_i0, cast_add1, cast_sub1, toNat120, i32_lit, i32_neg, i32_add, i32_sub, i32_mul, i32_nat, i32_le, i32_lt, i32_eq, inB_i, Int.toNat_natCast, mI_sI_eq, mI_sI_ne, mR_sR_eq, mR_sR_ne, mI_sR, mR_sI, mK_sI, mN_sI, mn_sI, mJ_sI, mK_sR, mN_sR, mn_sR, mJ_sR, mI_wI, mR_wI, mK_wI, mN_wI, mn_wI, mJ_wI, ↓bnd_of, ↓bndX_r, ↓bndX_l, ↓ap_of, bnd_of, bndX_r, bndX_l, if_true, if_false, ite_true, ite_false, not_true_eq_false, not_false_eq_true, Nat.reduceAdd, Nat.reduceMul, Nat.reduceEqDiff, Int.reduceToNat, Int.reduceNeg, Ilt_t, Ilt_f, Ile_t, Ile_f, Ieq_t, Ieq_f, Nlt_t, Nlt_f, Nle_t, Nle_f, Neq_t, Neq_f, or_true, true_or, or_false, false_or, and_true, true_and, and_false, false_and, ne_eq, or_self, and_self, decide_true, decide_false, Bool.false_eq_true, f_X11_skip, f_X11_skip_29, hL.o, ↓bxX hn, ↓bxX hm, hcol, hc, e1, e3]
        · simp (disch := omega) only [add_i0, cast_add1, cast_sub1, toNat120, i32_lit, i32_neg, i32_add, i32_sub, i32_mul, i32_nat, i32_le, i32_lt, i32_eq, inB_i, Int.toNat_natCast, mI_sI_eq, mI_sI_ne, mR_sR_eq, mR_sR_ne, mI_sR, mR_sI, mK_sI, mN_sI, mn_sI, mJ_sI, mK_sR, mN_sR, mn_sR, mJ_sR, mI_wI, mR_wI, mK_wI, mN_wI, mn_wI, mJ_wI, ↓bnd_of, ↓bndX_r, ↓bndX_l, ↓ap_of, bnd_of, bndX_r, bndX_l, if_true, if_false, ite_true, ite_false, not_true_eq_false, not_false_eq_true, Nat.reduceAdd, Nat.reduceMul, Nat.reduceEqDiff, Int.reduceToNat, Int.reduceNeg, Ilt_t, Ilt_f, Ile_t, Ile_f, Ieq_t, Ieq_f, Nlt_t, Nlt_f, Nle_t, Nle_f, Neq_t, Neq_f, or_true, true_or, or_false, false_or, and_true, true_and, and_false, false_and, ne_eq, or_self, and_self, decide_true, decide_false, Bool.false_eq_true, f_X11_skip, hL.o, ↓bxX hn, ↓bxX hm]
          (first | done | with_reducible rfl | ((repeat' split) <;> (first | with_reducible rfl | (exfalso; omega) | grind)))
    · rw [if_neg d2] at hm
      simp (disch := omega) only [add_i0, cast_add1, cast_sub1, toNat120, i32_lit, i32_neg, i32_add, i32_sub, i32_mul, i32_nat, i32_le, i32_lt, i32_eq, inB_i, Int.toNat_natCast, mI_sI_eq, mI_sI_ne, mR_sR_eq, mR_sR_ne, mI_sR, mR_sI, mK_sI, mN_sI, mn_sI, mJ_sI, mK_sR, mN_sR, mn_sR, mJ_sR, mI_wI, mR_wI, mK_wI, mN_wI, mn_wI, mJ_wI, ↓bnd_of, ↓bndX_r, ↓bndX_l, ↓ap_of, bnd_of, bndX_r, bndX_l, if_true, if_false, ite_true, ite_false, not_true_eq_false, not_false_eq_true, Nat.reduceAdd, Nat.reduceMul, Nat.reduceEqDiff, Int.reduceToNat, Int.reduceNeg, Ilt_t, Ilt_f, Ile_t, Ile_f, Ieq_t, Ieq_f, Nlt_t, Nlt_f, Nle_t, Nle_f, Neq_t, Neq_f, or_true, true_or, or_false, false_or, and_true, true_and, and_false, false_and, ne_eq, or_self, and_self, decide_true, decide_false, Bool.false_eq_true, f_X11_skip, hL.o, ↓bxX hn, ↓bxL hm, d2]
  · rw [if_neg d] at hn
    simp (disch := omega) only [add_i0, cast_add1, cast_sub1, toNat120, i32_lit, i32_neg, i32_add, i32_sub, i32_mul, i32_nat, i32_le, i32_lt, i32_eq, inB_i, Int.toNat_natCast, mI_sI_eq, mI_sI_ne, mR_sR_eq, mR_sR_ne, mI_sR, mR_sI, mK_sI, mN_sI, mn_sI, mJ_sI, mK_sR, mN_sR, mn_sR, mJ_sR, mI_wI, mR_wI, mK_wI, mN_wI, mn_wI, mJ_wI, ↓bnd_of, ↓bndX_r, ↓bndX_l, ↓ap_of, bnd_of, bndX_r, bndX_l, if_true, if_false, ite_true, ite_false, not_true_eq_false, not_false_eq_true, Nat.reduceAdd, Nat.reduceMul, Nat.reduceEqDiff, Int.reduceToNat, Int.reduceNeg, Ilt_t, Ilt_f, Ile_t, Ile_f, Ieq_t, Ieq_f, Nlt_t, Nlt_f, Nle_t, Nle_f, Neq_t, Neq_f, or_true, true_or, or_false, false_or, and_true, true_and, and_false, false_and, ne_eq, or_self, and_self, decide_true, decide_false, Bool.false_eq_true, f_X11_skip, hL.o, ↓bxL hn, d]
theorem r_skip (hW : S.wf) (hV : RV M S A) (l r w : Int) (z1 : -2147483648 ≤ l) (z2 : l ≤ 2147483647) (z3 : -2147483648 ≤ r) (z4 : r ≤ 2147483647) (z5 : -2147483648 ≤ w) (z6 : w ≤ 2147483647) : ∃ v M', f_X12_skip 134 (i32 l) (i32 r) (i32 w) M = some (v, M') ∧ RA M M' (a_skip S A l r w) v := by
  generalize ha : a_skip S A l r w = ans
  unfold f_X12_skip
  refine ref_start hW hV (fun M0 hV0 hc0 => ?_)
  have hn := X12_isLeaf hV0 hW.1 l z1 z2
  have hm := X12_isRecord hV0 r z3 z4
  have hf := X12_fail hV0.1 1
  have b := hW.1.2.1
  have hL := hV0.1
  unfold a_skip at ha
  by_cases d : 0 ≤ l ∧ l < S.nl
  · rw [if_pos d] at hn
    obtain ⟨l, rfl⟩ : ∃ k : Nat, l = k := ⟨l.toNat, by omega⟩
    simp only [Int.toNat_natCast] at ha
    by_cases d2 : 0 ≤ r ∧ r < A.rc
    · rw [if_pos d2] at hm
      by_cases d3 : 0 ≤ w ∧ w ≤ 1
      · rw [if_pos ⟨d, d2, d3⟩] at ha
        have hE := hV0.2.2
        have b1 := St.b hE.1 l 0
        have hz := hE.2.1 l (by omega)
        have e1 := X12_firstOf hV0.1 hE (l := l) (by omega) r (by omega) (by omega)
        have fb := firstFrom_b (A.rp l) r (A.sz l) 0 0
        unfold firstR at e1
        by_cases q : firstFrom (A.rp l) r (A.sz l) 0 0 = -1
        · rw [if_pos q] at e1 ha
          subst ha
          refine ⟨_, _, ?_, RA_1 hc0 _⟩
          simp (disch := omega) only [add_i0, cast_add1, cast_sub1, toNat120, i32_lit, i32_neg, i32_add, i32_sub, i32_mul, i32_nat, i32_le, i32_lt, i32_eq, inB_i, Int.toNat_natCast, mI_sI_eq, mI_sI_ne, mR_sR_eq, mR_sR_ne, mI_sR, mR_sI, mK_sI, mN_sI, mn_sI, mJ_sI, mK_sR, mN_sR, mn_sR, mJ_sR, mI_wI, mR_wI, mK_wI, mN_wI, mn_wI, mJ_wI, ↓bnd_of, ↓bndX_r, ↓bndX_l, ↓ap_of, bnd_of, bndX_r, bndX_l, if_true, if_false, ite_true, ite_false, not_true_eq_false, not_false_eq_true, Nat.reduceAdd, Nat.reduceMul, Nat.reduceEqDiff, Int.reduceToNat, Int.reduceNeg, Ilt_t, Ilt_f, Ile_t, Ile_f, Ieq_t, Ieq_f, Nlt_t, Nlt_f, Nle_t, Nle_f, Neq_t, Neq_f, or_true, true_or, or_false, false_or, and_true, true_and, and_false, false_and, ne_eq, or_self, and_self, decide_true, decide_false, Bool.false_eq_true, hL.o, ↓bx hn, ↓bx hm, ↓isIn_g, i32_toInt, i64_0, i64_1, ite10, ↓bx e1, hz]
        · rw [if_neg q] at e1 ha
          obtain ⟨p, hp⟩ : ∃ p : Nat, firstFrom (A.rp l) r (A.sz l) 0 0 = p := ⟨(firstFrom (A.rp l) r (A.sz l) 0 0).toNat, by omega⟩
          rw [hp] at e1 fb ha
          have e2 := X12_behindOf hV0.1 hE (l := l) (by omega) p (by omega)
          by_cases w0 : w = 0
          · subst w0
            rw [if_pos rfl] at ha
            subst ha
            refine ⟨_, _, ?_, RA_1 hc0 _⟩
            simp (disch := omega) only [add_i0, cast_add1, cast_sub1, toNat120, i32_lit, i32_neg, i32_add, i32_sub, i32_mul, i32_nat, i32_le, i32_lt, i32_eq, inB_i, Int.toNat_natCast, mI_sI_eq, mI_sI_ne, mR_sR_eq, mR_sR_ne, mI_sR, mR_sI, mK_sI, mN_sI, mn_sI, mJ_sI, mK_sR, mN_sR, mn_sR, mJ_sR, mI_wI, mR_wI, mK_wI, mN_wI, mn_wI, mJ_wI, ↓bnd_of, ↓bndX_r, ↓bndX_l, ↓ap_of, bnd_of, bndX_r, bndX_l, if_true, if_false, ite_true, ite_false, not_true_eq_false, not_false_eq_true, Nat.reduceAdd, Nat.reduceMul, Nat.reduceEqDiff, Int.reduceToNat, Int.reduceNeg, Ilt_t, Ilt_f, Ile_t, Ile_f, Ieq_t, Ieq_f, Nlt_t, Nlt_f, Nle_t, Nle_f, Neq_t, Neq_f, or_true, true_or, or_false, false_or, and_true, true_and, and_false, false_and, ne_eq, or_self, and_self, decide_true, decide_false, Bool.false_eq_true, hL.o, ↓bx hn, ↓bx hm, ↓isIn_g, i32_toInt, i64_0, i64_1, ite10, ↓bx e1, hz]
          · rw [if_neg w0] at ha
            subst ha
            refine ⟨_, _, ?_, RA_1 hc0 _⟩
            simp (disch := omega) only [add_i0, cast_add1, cast_sub1, toNat120, i32_lit, i32_neg, i32_add, i32_sub, i32_mul, i32_nat, i32_le, i32_lt, i32_eq, inB_i, Int.toNat_natCast, mI_sI_eq, mI_sI_ne, mR_sR_eq, mR_sR_ne, mI_sR, mR_sI, mK_sI, mN_sI, mn_sI, mJ_sI, mK_sR, mN_sR, mn_sR, mJ_sR, mI_wI, mR_wI, mK_wI, mN_wI, mn_wI, mJ_wI, ↓bnd_of, ↓bndX_r, ↓bndX_l, ↓ap_of, bnd_of, bndX_r, bndX_l, if_true, if_false, ite_true, ite_false, not_true_eq_false, not_false_eq_true, Nat.reduceAdd, Nat.reduceMul, Nat.reduceEqDiff, Int.reduceToNat, Int.reduceNeg, Ilt_t, Ilt_f, Ile_t, Ile_f, Ieq_t, Ieq_f, Nlt_t, Nlt_f, Nle_t, Nle_f, Neq_t, Neq_f, or_true, true_or, or_false, false_or, and_true, true_and, and_false, false_and, ne_eq, or_self, and_self, decide_true, decide_false, Bool.false_eq_true, hL.o, ↓bx hn, ↓bx hm, ↓isIn_g, i32_toInt, i64_0, i64_1, ite10, ↓bx e1, hz, ↓bx e2]
      · rw [if_neg (by omega)] at ha
        subst ha
        refine ⟨_, _, ?_, RA_f 1 (i32 0)⟩
        simp (disch := omega) only [add_i0, cast_add1, cast_sub1, toNat120, i32_lit, i32_neg, i32_add, i32_sub, i32_mul, i32_nat, i32_le, i32_lt, i32_eq, inB_i, Int.toNat_natCast, mI_sI_eq, mI_sI_ne, mR_sR_eq, mR_sR_ne, mI_sR, mR_sI, mK_sI, mN_sI, mn_sI, mJ_sI, mK_sR, mN_sR, mn_sR, mJ_sR, mI_wI, mR_wI, mK_wI, mN_wI, mn_wI, mJ_wI, ↓bnd_of, ↓bndX_r, ↓bndX_l, ↓ap_of, bnd_of, bndX_r, bndX_l, if_true, if_false, ite_true, ite_false, not_true_eq_false, not_false_eq_true, Nat.reduceAdd, Nat.reduceMul, Nat.reduceEqDiff, Int.reduceToNat, Int.reduceNeg, Ilt_t, Ilt_f, Ile_t, Ile_f, Ieq_t, Ieq_f, Nlt_t, Nlt_f, Nle_t, Nle_f, Neq_t, Neq_f, or_true, true_or, or_false, false_or, and_true, true_and, and_false, false_and, ne_eq, or_self, and_self, decide_true, decide_false, Bool.false_eq_true, f_X12_skip_31, hL.o, ↓bx hn, ↓bx hm, ↓isIn_g, i32_toInt, i64_0, i64_1, ite10, hf]
        (first | done | with_reducible rfl | ((repeat' split) <;> (first | with_reducible rfl | (exfalso; omega) | grind)))
    · rw [if_neg d2] at hm
      rw [if_neg (by omega)] at ha
      subst ha
      refine ⟨_, _, ?_, RA_f 1 (i32 0)⟩
      simp (disch := omega) only [add_i0, cast_add1, cast_sub1, toNat120, i32_lit, i32_neg, i32_add, i32_sub, i32_mul, i32_nat, i32_le, i32_lt, i32_eq, inB_i, Int.toNat_natCast, mI_sI_eq, mI_sI_ne, mR_sR_eq, mR_sR_ne, mI_sR, mR_sI, mK_sI, mN_sI, mn_sI, mJ_sI, mK_sR, mN_sR, mn_sR, mJ_sR, mI_wI, mR_wI, mK_wI, mN_wI, mn_wI, mJ_wI, ↓bnd_of, ↓bndX_r, ↓bndX_l, ↓ap_of, bnd_of, bndX_r, bndX_l, if_true, if_false, ite_true, ite_false, not_true_eq_false, not_false_eq_true, Nat.reduceAdd, Nat.reduceMul, Nat.reduceEqDiff, Int.reduceToNat, Int.reduceNeg, Ilt_t, Ilt_f, Ile_t, Ile_f, Ieq_t, Ieq_f, Nlt_t, Nlt_f, Nle_t, Nle_f, Neq_t, Neq_f, or_true, true_or, or_false, false_or, and_true, true_and, and_false, false_and, ne_eq, or_self, and_self, decide_true, decide_false, Bool.false_eq_true, f_X12_skip_31, hL.o, ↓bx hn, ↓bx hm, hf]
      rfl
  · rw [if_neg d] at hn
    rw [if_neg (by omega)] at ha
    subst ha
    refine ⟨_, _, ?_, RA_f 1 (i32 0)⟩
    simp (disch := omega) only [add_i0, cast_add1, cast_sub1, toNat120, i32_lit, i32_neg, i32_add, i32_sub, i32_mul, i32_nat, i32_le, i32_lt, i32_eq, inB_i, Int.toNat_natCast, mI_sI_eq, mI_sI_ne, mR_sR_eq, mR_sR_ne, mI_sR, mR_sI, mK_sI, mN_sI, mn_sI, mJ_sI, mK_sR, mN_sR, mn_sR, mJ_sR, mI_wI, mR_wI, mK_wI, mN_wI, mn_wI, mJ_wI, ↓bnd_of, ↓bndX_r, ↓bndX_l, ↓ap_of, bnd_of, bndX_r, bndX_l, if_true, if_false, ite_true, ite_false, not_true_eq_false, not_false_eq_true, Nat.reduceAdd, Nat.reduceMul, Nat.reduceEqDiff, Int.reduceToNat, Int.reduceNeg, Ilt_t, Ilt_f, Ile_t, Ile_f, Ieq_t, Ieq_f, Nlt_t, Nlt_f, Nle_t, Nle_f, Neq_t, Neq_f, or_true, true_or, or_false, false_or, and_true, true_and, and_false, false_and, ne_eq, or_self, and_self, decide_true, decide_false, Bool.false_eq_true, f_X12_skip_31, hL.o, ↓bx hn, hf]
    rfl
theorem c_leaf (h : RO M s S A) (l w : Int) (z1 : -2147483648 ≤ l) (z2 : l ≤ 2147483647) (z5 : -2147483648 ≤ w) (z6 : w ≤ 2147483647) : f_X11_leaf 1 (i32 l) (i32 w) M = some (a_leaf S A l w, M) := by
  obtain ⟨hW, hV, -, h8⟩ := h
  have hn := X11_needLeaf hV h8 hW.1 l z1 z2
  have b := hW.1.2.1
  obtain ⟨hL, hc, hs, hC, hA, hr, -⟩ := hV
  have hcol := hc.2.2.2.2.2.2.2.2.2.2
  simp only [Nat.reduceSub] at hcol
  unfold a_leaf
  by_cases d : 0 ≤ l ∧ l < S.nl
  · rw [if_pos d] at hn ⊢
    obtain ⟨l, rfl⟩ : ∃ k : Nat, l = k := ⟨l.toNat, by omega⟩
    simp only [Int.toNat_natCast]
    have b1 := St.b hA.1 l 0
    have hfo := Sc.fo_lt hW.1 (show l < S.nl by omega)
    have b3 := Sc.sr_b hW.1 (S.fo l)
    have b4 := Sc.sd_b hW.1 (S.fo l)
    have e1 := X2_runsRep hc hA (l := l) (by omega)
    have e2 := X2_runsDef hc hA (l := l) (by omega)
    have e3 := X11_binaryDigits M (S.sr (S.fo l)) (by omega) (by omega)
    have e4 := X11_binaryDigits M (S.sd (S.fo l)) (by omega) (by omega)
    obtain ⟨c0, c1, ck, cg, cl, cd, cr, -, -, -, -, -, cf⟩ := hC
    obtain ⟨hok, a1, -⟩ := hA
    simp (disch := omega) only [add_i0, cast_add1, cast_sub1, toNat120, i32_lit, i32_neg, i32_add, i32_sub, i32_mul, i32_nat, i32_le, i32_lt, i32_eq, inB_i, Int.toNat_natCast, mI_sI_eq, mI_sI_ne, mR_sR_eq, mR_sR_ne, mI_sR, mR_sI, mK_sI, mN_sI, mn_sI, mJ_sI, mK_sR, mN_sR, mn_sR, mJ_sR, mI_wI, mR_wI, mK_wI, mN_wI, mn_wI, mJ_wI, ↓bnd_of, ↓bndX_r, ↓bndX_l, ↓ap_of, bnd_of, bndX_r, bndX_l, if_true, if_false, ite_true, ite_false, not_true_eq_false, not_false_eq_true, Nat.reduceAdd, Nat.reduceMul, Nat.reduceEqDiff, Int.reduceToNat, Int.reduceNeg, Ilt_t, Ilt_f, Ile_t, Ile_f, Ieq_t, Ieq_f, Nlt_t, Nlt_f, Nle_t, Nle_f, Neq_t, Neq_f, or_true, true_or, or_false, false_or, and_true, true_and, and_false, false_and, ne_eq, or_self, and_self, decide_true, decide_false, Bool.false_eq_true, f_X11_leaf, hL.o, ↓bxX hn, h8, hs.o, hcol, hc, cf, cr, cd, a1, e1, e2, e3, e4]
    (first | done | with_reducible rfl | ((repeat' split) <;> (first | with_reducible rfl | (exfalso; omega) | grind)))
  · rw [if_neg d] at hn ⊢
    simp (disch := omega) only [add_i0, cast_add1, cast_sub1, toNat120, i32_lit, i32_neg, i32_add, i32_sub, i32_mul, i32_nat, i32_le, i32_lt, i32_eq, inB_i, Int.toNat_natCast, mI_sI_eq, mI_sI_ne, mR_sR_eq, mR_sR_ne, mI_sR, mR_sI, mK_sI, mN_sI, mn_sI, mJ_sI, mK_sR, mN_sR, mn_sR, mJ_sR, mI_wI, mR_wI, mK_wI, mN_wI, mn_wI, mJ_wI, ↓bnd_of, ↓bndX_r, ↓bndX_l, ↓ap_of, bnd_of, bndX_r, bndX_l, if_true, if_false, ite_true, ite_false, not_true_eq_false, not_false_eq_true, Nat.reduceAdd, Nat.reduceMul, Nat.reduceEqDiff, Int.reduceToNat, Int.reduceNeg, Ilt_t, Ilt_f, Ile_t, Ile_f, Ieq_t, Ieq_f, Nlt_t, Nlt_f, Nle_t, Nle_f, Neq_t, Neq_f, or_true, true_or, or_false, false_or, and_true, true_and, and_false, false_and, ne_eq, or_self, and_self, decide_true, decide_false, Bool.false_eq_true, f_X11_leaf, hL.o, ↓bxL hn]
end
