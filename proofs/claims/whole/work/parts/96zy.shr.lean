/-! schema, view in the reference: names -/
def RTr (M : Mem) (T : Sc) (vw : Bool) : Prop := mI M 147 2 = i32 T.nf ∧ mI M 148 2 = i32 T.nl ∧ (∀ f, f < T.nf → mI M 139 (32 + f) = i32 (T.kd f)) ∧ (∀ f, f < T.nf → mI M 140 (32 + f) = i32 (T.gr f)) ∧ (∀ f, f < T.nf → mI M 141 (32 + f) = i32 (T.lf f)) ∧ (∀ f, f < T.nf → mI M 142 (32 + f) = i32 (T.sd f)) ∧ (∀ f, f < T.nf → mI M 143 (32 + f) = i32 (T.sr f)) ∧ (∀ f, f < T.nf → mI M 144 (32 + f) = i32 (T.ln f)) ∧ (∀ f i : Nat, f < T.nf → (i : Int) < T.ln f → mI M 146 (4 * (32 + f) + i) = i32 (T.nm (4 * f + i))) ∧ (∀ f, f < T.nf → mI M 145 (32 + f) = i32 (if vw = true then T.tw f else -1))
/-- names and groups of fields that stand from b on -/
def NmR (M : Mem) (b : Nat) (S : Sc) : Prop := b + S.nf ≤ 48 ∧ (∀ f, f < S.nf → mI M 140 (b + f) = i32 (S.gr f)) ∧ (∀ f, f < S.nf → mI M 144 (b + f) = i32 (S.ln f)) ∧ (∀ f i : Nat, f < S.nf → (i : Int) < S.ln f → mI M 146 (4 * (b + f) + i) = i32 (S.nm (4 * f + i)))
section
variable {M M' : Mem} {S T : Sc} {b f : Nat} {vw : Bool}
theorem NmR.of0 (h : RS0 M S) (hS : S.ok) : NmR M 0 S := ⟨by have := hS.1; omega, fun f hf => by rw [Nat.zero_add]; exact h.2.2.2.1 f hf, fun f hf => by rw [Nat.zero_add]; exact h.2.2.2.2.2.2.2.1 f hf, fun f i hf hi => by rw [Nat.zero_add]; exact h.2.2.2.2.2.2.2.2.1 f i hf hi⟩
theorem NmR.of2 (h : RTr M T vw) (hT : T.ok) : NmR M 32 T := ⟨by have := hT.1; omega, h.2.2.2.1, h.2.2.2.2.2.2.2.1, h.2.2.2.2.2.2.2.2.1⟩
theorem X12_same24z (hL : RLay M) {x y : Nat} (hx : x < 48) {l : Int} (l0 : 0 ≤ l) (l4 : l ≤ 4) (hl : mI M 144 x = i32 l) (m j : Nat) (hj : j ≤ 10) : f_X12_isSameName_24 (m + 1) 134 (i32 x) (i32 y) (i32 0) (i32 j) M = some (i32 0, M) := by
  have r20 : mR M 134 20 = 144 := by simp only [hL.o]
  have k144 : mK M 144 = 21 := by simp only [hL.o]
  have n144 : mN M 144 = 48 := by simp only [hL.o]
  have inx : inB (i32 (x : Int)) 48 = true := by simp (disch := omega) only [↓reduceIte, add_i0, cast_add1, cast_sub1, toNat120, i32_lit, i32_neg, i32_add, i32_sub, i32_mul, i32_nat, i32_le, i32_lt, i32_eq, inB_i, Int.toNat_natCast, mI_sI_eq, mI_sI_ne, mR_sR_eq, mR_sR_ne, mI_sR, mR_sI, mK_sI, mN_sI, mn_sI, mJ_sI, mK_sR, mN_sR, mn_sR, mJ_sR, mI_wI, mR_wI, mK_wI, mN_wI, mn_wI, mJ_wI, ↓bnd_of, ↓bndX_r, ↓bndX_l, ↓ap_nr, bnd_of, bndX_r, bndX_l, if_true, if_false, ite_true, ite_false, not_true_eq_false, not_false_eq_true, Nat.reduceAdd, Nat.reduceMul, Nat.reduceEqDiff, Int.reduceToNat, Int.reduceNeg, Ilt_t, Ilt_f, Ile_t, Ile_f, Ieq_t, Ieq_f, Nlt_t, Nlt_f, Nle_t, Nle_f, Neq_t, Neq_f, or_true, true_or, or_false, false_or, and_true, true_and, and_false, false_and, ne_eq, or_self, and_self, decide_true, decide_false, Bool.false_eq_true]
  unfold f_X12_isSameName_24
  rw [if_pos hL.k, r20, if_pos k144, n144, if_pos inx, nat_i (by omega), hl]
  by_cases c : l ≤ j
  · rw [if_pos (by simp (disch := omega) only [↓reduceIte, add_i0, cast_add1, cast_sub1, toNat120, i32_lit, i32_neg, i32_add, i32_sub, i32_mul, i32_nat, i32_le, i32_lt, i32_eq, inB_i, Int.toNat_natCast, mI_sI_eq, mI_sI_ne, mR_sR_eq, mR_sR_ne, mI_sR, mR_sI, mK_sI, mN_sI, mn_sI, mJ_sI, mK_sR, mN_sR, mn_sR, mJ_sR, mI_wI, mR_wI, mK_wI, mN_wI, mn_wI, mJ_wI, ↓bnd_of, ↓bndX_r, ↓bndX_l, ↓ap_nr, bnd_of, bndX_r, bndX_l, if_true, if_false, ite_true, ite_false, not_true_eq_false, not_false_eq_true, Nat.reduceAdd, Nat.reduceMul, Nat.reduceEqDiff, Int.reduceToNat, Int.reduceNeg, Ilt_t, Ilt_f, Ile_t, Ile_f, Ieq_t, Ieq_f, Nlt_t, Nlt_f, Nle_t, Nle_f, Neq_t, Neq_f, or_true, true_or, or_false, false_or, and_true, true_and, and_false, false_and, ne_eq, or_self, and_self, decide_true, decide_false, Bool.false_eq_true]), if_pos (by decide)]
  · rw [if_neg (by simp (disch := omega) only [↓reduceIte, add_i0, cast_add1, cast_sub1, toNat120, i32_lit, i32_neg, i32_add, i32_sub, i32_mul, i32_nat, i32_le, i32_lt, i32_eq, inB_i, Int.toNat_natCast, mI_sI_eq, mI_sI_ne, mR_sR_eq, mR_sR_ne, mI_sR, mR_sI, mK_sI, mN_sI, mn_sI, mJ_sI, mK_sR, mN_sR, mn_sR, mJ_sR, mI_wI, mR_wI, mK_wI, mN_wI, mn_wI, mJ_wI, ↓bnd_of, ↓bndX_r, ↓bndX_l, ↓ap_nr, bnd_of, bndX_r, bndX_l, if_true, if_false, ite_true, ite_false, not_true_eq_false, not_false_eq_true, Nat.reduceAdd, Nat.reduceMul, Nat.reduceEqDiff, Int.reduceToNat, Int.reduceNeg, Ilt_t, Ilt_f, Ile_t, Ile_f, Ieq_t, Ieq_f, Nlt_t, Nlt_f, Nle_t, Nle_f, Neq_t, Neq_f, or_true, true_or, or_false, false_or, and_true, true_and, and_false, false_and, ne_eq, or_self, and_self, decide_true, decide_false, Bool.false_eq_true]), if_pos (by rfl), if_pos (by decide)]
theorem X12_same24 (hL : RLay M) {i : Nat} (hs : NmR M b S) (ht : NmR M 32 T) (hS : S.ok) (hT : T.ok) (hi : i < S.nf) (hf : f < T.nf) (hl : S.ln i = T.ln f) : ∀ (k j m : Nat), (j : Int) + k = S.ln i → k + 1 < m → f_X12_isSameName_24 m 134 (i32 ((b + i : Nat) : Int)) (i32 ((32 + f : Nat) : Int)) (i32 1) (i32 j) M = some (if smF S T i f k j = true then i32 1 else i32 0, M) := by
  have hb := hs.1
  have htb := ht.1
  have lb := hS.2.2.2.2.2.2.2.1 i
  have nb := hS.2.2.2.2.2.2.2.2.1
  have nb' := hT.2.2.2.2.2.2.2.2.1
  have r20 : mR M 134 20 = 144 := by simp only [hL.o]
  have k144 : mK M 144 = 21 := by simp only [hL.o]
  have n144 : mN M 144 = 48 := by simp only [hL.o]
  have r22 : mR M 134 22 = 146 := by simp only [hL.o]
  have k146 : mK M 146 = 21 := by simp only [hL.o]
  have n146 : mN M 146 = 192 := by simp only [hL.o]
  have inx : inB (i32 ((b + i : Nat) : Int)) 48 = true := by simp (disch := omega) only [↓reduceIte, add_i0, cast_add1, cast_sub1, toNat120, i32_lit, i32_neg, i32_add, i32_sub, i32_mul, i32_nat, i32_le, i32_lt, i32_eq, inB_i, Int.toNat_natCast, mI_sI_eq, mI_sI_ne, mR_sR_eq, mR_sR_ne, mI_sR, mR_sI, mK_sI, mN_sI, mn_sI, mJ_sI, mK_sR, mN_sR, mn_sR, mJ_sR, mI_wI, mR_wI, mK_wI, mN_wI, mn_wI, mJ_wI, ↓bnd_of, ↓bndX_r, ↓bndX_l, ↓ap_nr, bnd_of, bndX_r, bndX_l, if_true, if_false, ite_true, ite_false, not_true_eq_false, not_false_eq_true, Nat.reduceAdd, Nat.reduceMul, Nat.reduceEqDiff, Int.reduceToNat, Int.reduceNeg, Ilt_t, Ilt_f, Ile_t, Ile_f, Ieq_t, Ieq_f, Nlt_t, Nlt_f, Nle_t, Nle_f, Neq_t, Neq_f, or_true, true_or, or_false, false_or, and_true, true_and, and_false, false_and, ne_eq, or_self, and_self, decide_true, decide_false, Bool.false_eq_true]
  have el := hs.2.2.1 i hi
  have nz1 : ¬ (i32 1 = i32 0) := i32_ne (by omega) (by omega) (by omega) (by omega) (by omega)
  intro k
  induction k with
  | zero =>
    intro j m hj hm
    obtain ⟨m, rfl⟩ : ∃ q, m = q + 1 := ⟨m - 1, by omega⟩
    unfold f_X12_isSameName_24
    rw [if_pos hL.k, r20, if_pos k144, n144, if_pos inx, nat_i (by omega), el, if_pos (by simp (disch := omega) only [↓reduceIte, add_i0, cast_add1, cast_sub1, toNat120, i32_lit, i32_neg, i32_add, i32_sub, i32_mul, i32_nat, i32_le, i32_lt, i32_eq, inB_i, Int.toNat_natCast, mI_sI_eq, mI_sI_ne, mR_sR_eq, mR_sR_ne, mI_sR, mR_sI, mK_sI, mN_sI, mn_sI, mJ_sI, mK_sR, mN_sR, mn_sR, mJ_sR, mI_wI, mR_wI, mK_wI, mN_wI, mn_wI, mJ_wI, ↓bnd_of, ↓bndX_r, ↓bndX_l, ↓ap_nr, bnd_of, bndX_r, bndX_l, if_true, if_false, ite_true, ite_false, not_true_eq_false, not_false_eq_true, Nat.reduceAdd, Nat.reduceMul, Nat.reduceEqDiff, Int.reduceToNat, Int.reduceNeg, Ilt_t, Ilt_f, Ile_t, Ile_f, Ieq_t, Ieq_f, Nlt_t, Nlt_f, Nle_t, Nle_f, Neq_t, Neq_f, or_true, true_or, or_false, false_or, and_true, true_and, and_false, false_and, ne_eq, or_self, and_self, decide_true, decide_false, Bool.false_eq_true]), if_pos (by decide)]
    rfl
  | succ k ih =>
    intro j m hj hm
    obtain ⟨m, rfl⟩ : ∃ q, m = q + 1 := ⟨m - 1, by omega⟩
    have lt : ¬ (i32 (S.ln i) ≤ i32 (j : Int)) := by simp (disch := omega) only [↓reduceIte, add_i0, cast_add1, cast_sub1, toNat120, i32_lit, i32_neg, i32_add, i32_sub, i32_mul, i32_nat, i32_le, i32_lt, i32_eq, inB_i, Int.toNat_natCast, mI_sI_eq, mI_sI_ne, mR_sR_eq, mR_sR_ne, mI_sR, mR_sI, mK_sI, mN_sI, mn_sI, mJ_sI, mK_sR, mN_sR, mn_sR, mJ_sR, mI_wI, mR_wI, mK_wI, mN_wI, mn_wI, mJ_wI, ↓bnd_of, ↓bndX_r, ↓bndX_l, ↓ap_nr, bnd_of, bndX_r, bndX_l, if_true, if_false, ite_true, ite_false, not_true_eq_false, not_false_eq_true, Nat.reduceAdd, Nat.reduceMul, Nat.reduceEqDiff, Int.reduceToNat, Int.reduceNeg, Ilt_t, Ilt_f, Ile_t, Ile_f, Ieq_t, Ieq_f, Nlt_t, Nlt_f, Nle_t, Nle_f, Neq_t, Neq_f, or_true, true_or, or_false, false_or, and_true, true_and, and_false, false_and, ne_eq, or_self, and_self, decide_true, decide_false, Bool.false_eq_true]
    have e1 : (4 : Int32) * i32 ((b + i : Nat) : Int) + i32 (j : Int) = i32 ((4 * (b + i) + j : Nat) : Int) := by
      rw [show (4 : Int32) = i32 4 from rfl, i32_mul, i32_add]
      congr 1
    have e2 : (4 : Int32) * i32 ((32 + f : Nat) : Int) + i32 (j : Int) = i32 ((4 * (32 + f) + j : Nat) : Int) := by
      rw [show (4 : Int32) = i32 4 from rfl, i32_mul, i32_add]
      congr 1
    have in1 : inB (i32 ((4 * (b + i) + j : Nat) : Int)) 192 = true := by simp (disch := omega) only [↓reduceIte, add_i0, cast_add1, cast_sub1, toNat120, i32_lit, i32_neg, i32_add, i32_sub, i32_mul, i32_nat, i32_le, i32_lt, i32_eq, inB_i, Int.toNat_natCast, mI_sI_eq, mI_sI_ne, mR_sR_eq, mR_sR_ne, mI_sR, mR_sI, mK_sI, mN_sI, mn_sI, mJ_sI, mK_sR, mN_sR, mn_sR, mJ_sR, mI_wI, mR_wI, mK_wI, mN_wI, mn_wI, mJ_wI, ↓bnd_of, ↓bndX_r, ↓bndX_l, ↓ap_nr, bnd_of, bndX_r, bndX_l, if_true, if_false, ite_true, ite_false, not_true_eq_false, not_false_eq_true, Nat.reduceAdd, Nat.reduceMul, Nat.reduceEqDiff, Int.reduceToNat, Int.reduceNeg, Ilt_t, Ilt_f, Ile_t, Ile_f, Ieq_t, Ieq_f, Nlt_t, Nlt_f, Nle_t, Nle_f, Neq_t, Neq_f, or_true, true_or, or_false, false_or, and_true, true_and, and_false, false_and, ne_eq, or_self, and_self, decide_true, decide_false, Bool.false_eq_true]
    have in2 : inB (i32 ((4 * (32 + f) + j : Nat) : Int)) 192 = true := by simp (disch := omega) only [↓reduceIte, add_i0, cast_add1, cast_sub1, toNat120, i32_lit, i32_neg, i32_add, i32_sub, i32_mul, i32_nat, i32_le, i32_lt, i32_eq, inB_i, Int.toNat_natCast, mI_sI_eq, mI_sI_ne, mR_sR_eq, mR_sR_ne, mI_sR, mR_sI, mK_sI, mN_sI, mn_sI, mJ_sI, mK_sR, mN_sR, mn_sR, mJ_sR, mI_wI, mR_wI, mK_wI, mN_wI, mn_wI, mJ_wI, ↓bnd_of, ↓bndX_r, ↓bndX_l, ↓ap_nr, bnd_of, bndX_r, bndX_l, if_true, if_false, ite_true, ite_false, not_true_eq_false, not_false_eq_true, Nat.reduceAdd, Nat.reduceMul, Nat.reduceEqDiff, Int.reduceToNat, Int.reduceNeg, Ilt_t, Ilt_f, Ile_t, Ile_f, Ieq_t, Ieq_f, Nlt_t, Nlt_f, Nle_t, Nle_f, Neq_t, Neq_f, or_true, true_or, or_false, false_or, and_true, true_and, and_false, false_and, ne_eq, or_self, and_self, decide_true, decide_false, Bool.false_eq_true]
    have v1 := hs.2.2.2 i j hi (by omega)
    have v2 := ht.2.2.2 f j hf (by omega)
    have b1 := nb (4 * i + j)
    have b2 := nb' (4 * f + j)
    conv => lhs; unfold f_X12_isSameName_24
    rw [if_pos hL.k, r20, if_pos k144, n144, if_pos inx, nat_i (k := b + i) (by omega), el, if_neg lt, if_neg (by exact nz1), r22, if_pos k146, e1, e2, n146, if_pos in1, if_pos in2, nat_i (k := 4 * (b + i) + j) (by omega), nat_i (k := 4 * (32 + f) + j) (by omega), v1, v2]
    unfold smF
    by_cases c : S.nm (4 * i + j) = T.nm (4 * f + j)
    · rw [if_pos c, if_pos (by rw [c]), f_X12_isSameName_69, k_add1]
      exact ih (j + 1) m (by omega) (by omega)
    · have nc : ¬ (i32 (S.nm (4 * i + j)) = i32 (T.nm (4 * f + j))) := i32_ne (by omega) (by omega) (by omega) (by omega) c
      obtain ⟨m, rfl⟩ : ∃ q, m = q + 1 := ⟨m - 1, by omega⟩
      rw [if_neg c, if_neg nc, f_X12_isSameName_69, k_add1]
      exact X12_same24z hL (by omega) lb.1 lb.2 el m (j + 1) (by omega)
theorem X12_isSameName (hL : RLay M) {i : Nat} (hs : NmR M b S) (ht : NmR M 32 T) (hS : S.ok) (hT : T.ok) (hi : i < S.nf) (hf : f < T.nf) : f_X12_isSameName 134 (i32 ((b + i : Nat) : Int)) (i32 ((32 + f : Nat) : Int)) M = some (if smN S T i f = true then i32 1 else i32 0, M) := by
  have hb := hs.1
  have htb := ht.1
  have lb := hS.2.2.2.2.2.2.2.1 i
  have lb' := hT.2.2.2.2.2.2.2.1 f
  have r20 : mR M 134 20 = 144 := by simp only [hL.o]
  have k144 : mK M 144 = 21 := by simp only [hL.o]
  have n144 : mN M 144 = 48 := by simp only [hL.o]
  have inx : inB (i32 ((b + i : Nat) : Int)) 48 = true := by simp (disch := omega) only [↓reduceIte, add_i0, cast_add1, cast_sub1, toNat120, i32_lit, i32_neg, i32_add, i32_sub, i32_mul, i32_nat, i32_le, i32_lt, i32_eq, inB_i, Int.toNat_natCast, mI_sI_eq, mI_sI_ne, mR_sR_eq, mR_sR_ne, mI_sR, mR_sI, mK_sI, mN_sI, mn_sI, mJ_sI, mK_sR, mN_sR, mn_sR, mJ_sR, mI_wI, mR_wI, mK_wI, mN_wI, mn_wI, mJ_wI, ↓bnd_of, ↓bndX_r, ↓bndX_l, ↓ap_nr, bnd_of, bndX_r, bndX_l, if_true, if_false, ite_true, ite_false, not_true_eq_false, not_false_eq_true, Nat.reduceAdd, Nat.reduceMul, Nat.reduceEqDiff, Int.reduceToNat, Int.reduceNeg, Ilt_t, Ilt_f, Ile_t, Ile_f, Ieq_t, Ieq_f, Nlt_t, Nlt_f, Nle_t, Nle_f, Neq_t, Neq_f, or_true, true_or, or_false, false_or, and_true, true_and, and_false, false_and, ne_eq, or_self, and_self, decide_true, decide_false, Bool.false_eq_true]
  have iny : inB (i32 ((32 + f : Nat) : Int)) 48 = true := by simp (disch := omega) only [↓reduceIte, add_i0, cast_add1, cast_sub1, toNat120, i32_lit, i32_neg, i32_add, i32_sub, i32_mul, i32_nat, i32_le, i32_lt, i32_eq, inB_i, Int.toNat_natCast, mI_sI_eq, mI_sI_ne, mR_sR_eq, mR_sR_ne, mI_sR, mR_sI, mK_sI, mN_sI, mn_sI, mJ_sI, mK_sR, mN_sR, mn_sR, mJ_sR, mI_wI, mR_wI, mK_wI, mN_wI, mn_wI, mJ_wI, ↓bnd_of, ↓bndX_r, ↓bndX_l, ↓ap_nr, bnd_of, bndX_r, bndX_l, if_true, if_false, ite_true, ite_false, not_true_eq_false, not_false_eq_true, Nat.reduceAdd, Nat.reduceMul, Nat.reduceEqDiff, Int.reduceToNat, Int.reduceNeg, Ilt_t, Ilt_f, Ile_t, Ile_f, Ieq_t, Ieq_f, Nlt_t, Nlt_f, Nle_t, Nle_f, Neq_t, Neq_f, or_true, true_or, or_false, false_or, and_true, true_and, and_false, false_and, ne_eq, or_self, and_self, decide_true, decide_false, Bool.false_eq_true]
  have el := hs.2.2.1 i hi
  have el' := ht.2.2.1 f hf
  unfold f_X12_isSameName
  rw [if_pos hL.k, r20, if_pos k144, n144, if_pos inx, if_pos iny, nat_i (k := b + i) (by omega), nat_i (k := 32 + f) (by omega), el, el']
  unfold smN
  by_cases c : S.ln i = T.ln f
  · rw [if_pos c, if_pos (by rw [c])]
    exact X12_same24 hL hs ht hS hT hi hf c (S.ln i).toNat 0 FUEL (by omega) (by unfold FUEL; omega)
  · have nc : ¬ (i32 (S.ln i) = i32 (T.ln f)) := i32_ne (by omega) (by omega) (by omega) (by omega) c
    obtain ⟨m, hm⟩ : ∃ m, FUEL = m + 1 := ⟨FUEL - 1, by unfold FUEL; omega⟩
    rw [if_neg c, if_neg nc]
    unfold f_X12_isSameName_20
    rw [hm]
    exact X12_same24z hL (by omega) lb.1 lb.2 el m 0 (by omega)
theorem X12_named3 (hL : RLay M) {a : Int} (a0 : -1 ≤ a) (a16 : a ≤ 15) (hs : NmR M b S) (ht : NmR M 32 T) (hS : S.ok) (hT : T.ok) (hf : f < T.nf) {N : Nat} (hN : N ≤ S.nf) (hbf : b + N ≤ 32 + f) : ∀ (k i m : Nat), i + k = N → k < m → f_X12_fieldNamedAs_3 m 134 (i32 b) (i32 N) (i32 a) (i32 ((32 + f : Nat) : Int)) (i32 i) M = some (i32 (fnF S T a f k i), M) := by
  have hb := hs.1
  have htb := ht.1
  have hnS := hS.1
  have r16 : mR M 134 16 = 140 := by simp only [hL.o]
  have k140 : mK M 140 = 21 := by simp only [hL.o]
  have n140 : mN M 140 = 48 := by simp only [hL.o]
  intro k
  induction k with
  | zero =>
    intro i m hi hm
    obtain ⟨m, rfl⟩ : ∃ q, m = q + 1 := ⟨m - 1, by omega⟩
    unfold f_X12_fieldNamedAs_3
    rw [if_pos (by simp (disch := omega) only [↓reduceIte, add_i0, cast_add1, cast_sub1, toNat120, i32_lit, i32_neg, i32_add, i32_sub, i32_mul, i32_nat, i32_le, i32_lt, i32_eq, inB_i, Int.toNat_natCast, mI_sI_eq, mI_sI_ne, mR_sR_eq, mR_sR_ne, mI_sR, mR_sI, mK_sI, mN_sI, mn_sI, mJ_sI, mK_sR, mN_sR, mn_sR, mJ_sR, mI_wI, mR_wI, mK_wI, mN_wI, mn_wI, mJ_wI, ↓bnd_of, ↓bndX_r, ↓bndX_l, ↓ap_nr, bnd_of, bndX_r, bndX_l, if_true, if_false, ite_true, ite_false, not_true_eq_false, not_false_eq_true, Nat.reduceAdd, Nat.reduceMul, Nat.reduceEqDiff, Int.reduceToNat, Int.reduceNeg, Ilt_t, Ilt_f, Ile_t, Ile_f, Ieq_t, Ieq_f, Nlt_t, Nlt_f, Nle_t, Nle_f, Neq_t, Neq_f, or_true, true_or, or_false, false_or, and_true, true_and, and_false, false_and, ne_eq, or_self, and_self, decide_true, decide_false, Bool.false_eq_true])]
    rfl
  | succ k ih =>
    intro i m hi hm
    obtain ⟨m, rfl⟩ : ∃ q, m = q + 1 := ⟨m - 1, by omega⟩
    have lt : ¬ (i32 (N : Int) ≤ i32 (i : Int)) := by simp (disch := omega) only [↓reduceIte, add_i0, cast_add1, cast_sub1, toNat120, i32_lit, i32_neg, i32_add, i32_sub, i32_mul, i32_nat, i32_le, i32_lt, i32_eq, inB_i, Int.toNat_natCast, mI_sI_eq, mI_sI_ne, mR_sR_eq, mR_sR_ne, mI_sR, mR_sI, mK_sI, mN_sI, mn_sI, mJ_sI, mK_sR, mN_sR, mn_sR, mJ_sR, mI_wI, mR_wI, mK_wI, mN_wI, mn_wI, mJ_wI, ↓bnd_of, ↓bndX_r, ↓bndX_l, ↓ap_nr, bnd_of, bndX_r, bndX_l, if_true, if_false, ite_true, ite_false, not_true_eq_false, not_false_eq_true, Nat.reduceAdd, Nat.reduceMul, Nat.reduceEqDiff, Int.reduceToNat, Int.reduceNeg, Ilt_t, Ilt_f, Ile_t, Ile_f, Ieq_t, Ieq_f, Nlt_t, Nlt_f, Nle_t, Nle_f, Neq_t, Neq_f, or_true, true_or, or_false, false_or, and_true, true_and, and_false, false_and, ne_eq, or_self, and_self, decide_true, decide_false, Bool.false_eq_true]
    have eb : i32 (b : Int) + i32 (i : Int) = i32 ((b + i : Nat) : Int) := by
      rw [i32_add]
      rfl
    have nef : ¬ (i32 ((b + i : Nat) : Int) = i32 ((32 + f : Nat) : Int)) := i32_ne (by omega) (by omega) (by omega) (by omega) (by omega)
    have inb : inB (i32 ((b + i : Nat) : Int)) 48 = true := by simp (disch := omega) only [↓reduceIte, add_i0, cast_add1, cast_sub1, toNat120, i32_lit, i32_neg, i32_add, i32_sub, i32_mul, i32_nat, i32_le, i32_lt, i32_eq, inB_i, Int.toNat_natCast, mI_sI_eq, mI_sI_ne, mR_sR_eq, mR_sR_ne, mI_sR, mR_sI, mK_sI, mN_sI, mn_sI, mJ_sI, mK_sR, mN_sR, mn_sR, mJ_sR, mI_wI, mR_wI, mK_wI, mN_wI, mn_wI, mJ_wI, ↓bnd_of, ↓bndX_r, ↓bndX_l, ↓ap_nr, bnd_of, bndX_r, bndX_l, if_true, if_false, ite_true, ite_false, not_true_eq_false, not_false_eq_true, Nat.reduceAdd, Nat.reduceMul, Nat.reduceEqDiff, Int.reduceToNat, Int.reduceNeg, Ilt_t, Ilt_f, Ile_t, Ile_f, Ieq_t, Ieq_f, Nlt_t, Nlt_f, Nle_t, Nle_f, Neq_t, Neq_f, or_true, true_or, or_false, false_or, and_true, true_and, and_false, false_and, ne_eq, or_self, and_self, decide_true, decide_false, Bool.false_eq_true]
    have eg := hs.2.1 i (by omega)
    have gb := hS.2.2.2.1 i
    conv => lhs; unfold f_X12_fieldNamedAs_3
    rw [if_neg lt, eb, if_neg nef, if_pos hL.k, r16, if_pos k140, n140, if_pos inb, nat_i (k := b + i) (by omega), eg]
    unfold fnF
    by_cases c : S.gr i = a
    · have eh := X12_isSameName hL hs ht hS hT (i := i) (f := f) (by omega) hf
      rw [if_pos (by rw [c]), bx eh]
      by_cases w : smN S T i f = true
      · have nz : ¬ (i32 1 = i32 0) := i32_ne (by omega) (by omega) (by omega) (by omega) (by omega)
        rw [if_pos w, if_neg (by exact nz), if_pos ⟨c, w⟩]
      · rw [if_neg w, if_pos (by rfl), if_neg (fun u => w u.2), f_X12_fieldNamedAs_47, k_add1]
        exact ih (i + 1) m (by omega) (by omega)
    · have nc : ¬ (i32 (S.gr i) = i32 a) := i32_ne (by omega) (by omega) (by omega) (by omega) c
      rw [if_neg nc, if_neg (fun u => c u.1), f_X12_fieldNamedAs_47, k_add1]
      exact ih (i + 1) m (by omega) (by omega)
theorem X12_fieldNamedAs (hL : RLay M) {a : Int} (a0 : -1 ≤ a) (a16 : a ≤ 15) (hs : NmR M b S) (ht : NmR M 32 T) (hS : S.ok) (hT : T.ok) (hf : f < T.nf) {N : Nat} (hN : N ≤ S.nf) (hbf : b + N ≤ 32 + f) : f_X12_fieldNamedAs 134 (i32 b) (i32 N) (i32 a) (i32 ((32 + f : Nat) : Int)) M = some (i32 (fnF S T a f N 0), M) := X12_named3 hL a0 a16 hs ht hS hT hf hN hbf N 0 FUEL (by omega) (by have := hS.1; unfold FUEL; omega)
/-- a twin is noted -/
theorem RTr_twi {v : Int} (h : RTr M T true) (hf : f < T.nf) : RTr (sI M 145 (32 + f) (i32 v)) (T.twi f v) true := by
  obtain ⟨c0, c1, c2, c3, c4, c5, c6, c7, c8, c9⟩ := h
  refine ⟨by rw [mI_sI_ne (by omega)]; exact c0, by rw [mI_sI_ne (by omega)]; exact c1, fun f' h => by rw [mI_sI_ne (by omega)]; exact c2 f' h, fun f' h => by rw [mI_sI_ne (by omega)]; exact c3 f' h, fun f' h => by rw [mI_sI_ne (by omega)]; exact c4 f' h, fun f' h => by rw [mI_sI_ne (by omega)]; exact c5 f' h, fun f' h => by rw [mI_sI_ne (by omega)]; exact c6 f' h, fun f' h => by rw [mI_sI_ne (by omega)]; exact c7 f' h, fun f' i h hi => by rw [mI_sI_ne (by omega)]; exact c8 f' i h hi, fun f' h => ?_⟩
  rw [if_pos rfl]
  show _ = i32 (upf T.tw f v f')
  by_cases c : f' = f
  · rw [c, upf_eq, mI_sI_eq]
  · rw [upf_ne _ _ c, mI_sI_ne (by omega)]
    have := c9 f' h
    rw [if_pos rfl] at this
    exact this
theorem X12_mayBeSeen {g : Int} (hL : RLay M) (hR0 : RS0 M S) (hR : RTr M T true) (hS : S.ok) (hT : T.ok) (hf : f < T.nf) (hgr : T.gr f = g) : ∃ M', f_X12_mayBeSeen 134 (i32 ((32 + f : Nat) : Int)) M = some (if ¬ seeO S T g (twV true S T g f) (T.kd f) then i32 0 else i32 1, M') ∧ Chg (fun a j => a = 145 ∧ 32 ≤ j) M M' ∧ RTr M' (T.twi f (twV true S T g f)) true := by
  have hnT := hT.1
  have hnS := hS.1
  have gb := hT.2.2.2.1 f
  rw [hgr] at gb
  have tb0 := hT.2.2.2.2.2.2.2.2.2.1
  have kb := hT.2.2.1 f
  have c0 : (0 : Int32).toNatClampNeg = 0 := by decide
  have r16 : mR M 134 16 = 140 := by simp only [hL.o]
  have k140 : mK M 140 = 21 := by simp only [hL.o]
  have n140 : mN M 140 = 48 := by simp only [hL.o]
  have r21 : mR M 134 21 = 145 := by simp only [hL.o]
  have k145 : mK M 145 = 21 := by simp only [hL.o]
  have n145 : mN M 145 = 48 := by simp only [hL.o]
  have r23 : mR M 134 23 = 147 := by simp only [hL.o]
  have k147 : mK M 147 = 21 := by simp only [hL.o]
  have n147 : mN M 147 = 3 := by simp only [hL.o]
  have r15 : mR M 134 15 = 139 := by simp only [hL.o]
  have k139 : mK M 139 = 21 := by simp only [hL.o]
  have n139 : mN M 139 = 48 := by simp only [hL.o]
  have inf : inB (i32 ((32 + f : Nat) : Int)) 48 = true := by simp (disch := omega) only [↓reduceIte, add_i0, cast_add1, cast_sub1, toNat120, i32_lit, i32_neg, i32_add, i32_sub, i32_mul, i32_nat, i32_le, i32_lt, i32_eq, inB_i, Int.toNat_natCast, mI_sI_eq, mI_sI_ne, mR_sR_eq, mR_sR_ne, mI_sR, mR_sI, mK_sI, mN_sI, mn_sI, mJ_sI, mK_sR, mN_sR, mn_sR, mJ_sR, mI_wI, mR_wI, mK_wI, mN_wI, mn_wI, mJ_wI, ↓bnd_of, ↓bndX_r, ↓bndX_l, ↓ap_nr, bnd_of, bndX_r, bndX_l, if_true, if_false, ite_true, ite_false, not_true_eq_false, not_false_eq_true, Nat.reduceAdd, Nat.reduceMul, Nat.reduceEqDiff, Int.reduceToNat, Int.reduceNeg, Ilt_t, Ilt_f, Ile_t, Ile_f, Ieq_t, Ieq_f, Nlt_t, Nlt_f, Nle_t, Nle_f, Neq_t, Neq_f, or_true, true_or, or_false, false_or, and_true, true_and, and_false, false_and, ne_eq, or_self, and_self, decide_true, decide_false, Bool.false_eq_true]
  have nf := nat_i (k := 32 + f) (by omega)
  have eg := hR.2.2.2.1 f hf
  rw [hgr] at eg
  have ctb : -1 ≤ ctG T g ∧ ctG T g ≤ 15 := by
    unfold ctG
    split
    · omega
    · exact tb0 _
  -- the group's twin
  have st1 : f_X12_mayBeSeen 134 (i32 ((32 + f : Nat) : Int)) M = f_X12_mayBeSeen_28 134 (i32 ((32 + f : Nat) : Int)) (i32 (ctG T g)) M := by
    unfold f_X12_mayBeSeen ctG
    rw [if_pos hL.k, r16, if_pos k140, n140, if_pos inf, nf, eg]
    by_cases c : g = -1
    · rw [if_pos c, if_pos (by rw [c]; rfl)]
      rfl
    · obtain ⟨p, hp⟩ : ∃ p : Nat, g = p := ⟨g.toNat, by omega⟩
      have ng : ¬ (i32 g = i32 (-1)) := i32_ne (by omega) (by omega) (by omega) (by omega) c
      have e32 : (32 : Int32) + i32 (p : Int) = i32 ((32 + p : Nat) : Int) := by
        rw [show (32 : Int32) = i32 32 from rfl, i32_add]
        rfl
      have inp : inB (i32 ((32 + p : Nat) : Int)) 48 = true := by simp (disch := omega) only [↓reduceIte, add_i0, cast_add1, cast_sub1, toNat120, i32_lit, i32_neg, i32_add, i32_sub, i32_mul, i32_nat, i32_le, i32_lt, i32_eq, inB_i, Int.toNat_natCast, mI_sI_eq, mI_sI_ne, mR_sR_eq, mR_sR_ne, mI_sR, mR_sI, mK_sI, mN_sI, mn_sI, mJ_sI, mK_sR, mN_sR, mn_sR, mJ_sR, mI_wI, mR_wI, mK_wI, mN_wI, mn_wI, mJ_wI, ↓bnd_of, ↓bndX_r, ↓bndX_l, ↓ap_nr, bnd_of, bndX_r, bndX_l, if_true, if_false, ite_true, ite_false, not_true_eq_false, not_false_eq_true, Nat.reduceAdd, Nat.reduceMul, Nat.reduceEqDiff, Int.reduceToNat, Int.reduceNeg, Ilt_t, Ilt_f, Ile_t, Ile_f, Ieq_t, Ieq_f, Nlt_t, Nlt_f, Nle_t, Nle_f, Neq_t, Neq_f, or_true, true_or, or_false, false_or, and_true, true_and, and_false, false_and, ne_eq, or_self, and_self, decide_true, decide_false, Bool.false_eq_true]
      have et := hR.2.2.2.2.2.2.2.2.2 p (by omega)
      rw [if_pos rfl] at et
      rw [if_neg c, if_neg (by exact ng), r21, if_pos k145, hp, e32, n145, if_pos inp, nat_i (k := 32 + p) (by omega), et, Int.toNat_natCast]
  -- the twin itself
  have fin : ∀ (v3 v : Int), (v3 = 0 ∨ v3 = 1) → -1 ≤ v → v < S.nf → v = twV true S T g f → (v3 = 0 ↔ (g ≠ -1 ∧ ctG T g = -1)) → f_X12_mayBeSeen 134 (i32 ((32 + f : Nat) : Int)) M = f_X12_mayBeSeen_76 134 (i32 ((32 + f : Nat) : Int)) (i32 v3) 145 (i32 ((32 + f : Nat) : Int)) (i32 v) M → ∃ M', f_X12_mayBeSeen 134 (i32 ((32 + f : Nat) : Int)) M = some (if ¬ seeO S T g (twV true S T g f) (T.kd f) then i32 0 else i32 1, M') ∧ Chg (fun a j => a = 145 ∧ 32 ≤ j) M M' ∧ RTr M' (T.twi f (twV true S T g f)) true := fun v3 v h3 v0 v1 hv hz est => by
    rw [← hv, est]
    refine ⟨sI M 145 (32 + f) (i32 v), ?_, (Chg.rf _ M).sI ⟨rfl, by omega⟩, RTr_twi hR hf⟩
    have ek : mI (sI M 145 (32 + f) (i32 v)) 139 (32 + f) = i32 (T.kd f) := by rw [mI_sI_ne (by omega)]; exact hR.2.2.1 f hf
    have c1 : 0 ≤ v3 ∧ v3 ≤ 1 := by omega
    unfold f_X12_mayBeSeen_76
    rw [if_pos k145, n145, if_pos inf, nf, ap_of, if_pos (by exact hL.k), mR_sI, r21, if_pos (by exact k145), mN_sI, n145, if_pos inf, mI_sI_eq, r15]
    by_cases a1 : v = -1
    · rw [if_pos (by rw [a1]; rfl)]
      by_cases a2 : v3 = 0
      · rw [if_pos (by rw [a2]; rfl), if_neg (fun u => u (Or.inl (hz.mp a2)))]
        rfl
      · have n3 : ¬ (i32 v3 = i32 0) := i32_ne (by omega) (by omega) (by omega) (by omega) a2
        rw [if_neg (by exact n3), if_pos (show mK (sI M 145 (32 + f) (i32 v)) 139 = 21 from k139), n139, if_pos inf, ek]
        by_cases w0 : T.kd f = 0
        · rw [if_pos (by rw [w0]; rfl), if_pos (fun u => by
            rcases u with u | u | u
            · exact a2 (hz.mpr u)
            · exact u.2 w0
            · exact u.1 a1)]
          rfl
        · have nw : ¬ (i32 (T.kd f) = i32 0) := i32_ne (by omega) (by omega) (by omega) (by omega) w0
          rw [if_neg (by exact nw), if_neg (fun u => u (Or.inr (Or.inl ⟨a1, w0⟩)))]
          rfl
    · obtain ⟨p, rfl⟩ : ∃ p : Nat, v = p := ⟨v.toNat, by omega⟩
      have nv : ¬ (i32 (p : Int) = i32 (-1)) := i32_ne (by omega) (by omega) (by omega) (by omega) a1
      have inp : inB (i32 (p : Int)) 48 = true := by simp (disch := omega) only [↓reduceIte, add_i0, cast_add1, cast_sub1, toNat120, i32_lit, i32_neg, i32_add, i32_sub, i32_mul, i32_nat, i32_le, i32_lt, i32_eq, inB_i, Int.toNat_natCast, mI_sI_eq, mI_sI_ne, mR_sR_eq, mR_sR_ne, mI_sR, mR_sI, mK_sI, mN_sI, mn_sI, mJ_sI, mK_sR, mN_sR, mn_sR, mJ_sR, mI_wI, mR_wI, mK_wI, mN_wI, mn_wI, mJ_wI, ↓bnd_of, ↓bndX_r, ↓bndX_l, ↓ap_nr, bnd_of, bndX_r, bndX_l, if_true, if_false, ite_true, ite_false, not_true_eq_false, not_false_eq_true, Nat.reduceAdd, Nat.reduceMul, Nat.reduceEqDiff, Int.reduceToNat, Int.reduceNeg, Ilt_t, Ilt_f, Ile_t, Ile_f, Ieq_t, Ieq_f, Nlt_t, Nlt_f, Nle_t, Nle_f, Neq_t, Neq_f, or_true, true_or, or_false, false_or, and_true, true_and, and_false, false_and, ne_eq, or_self, and_self, decide_true, decide_false, Bool.false_eq_true]
      have sk := hS.2.2.1 p
      have es : mI (sI M 145 (32 + f) (i32 (p : Int))) 139 p = i32 (S.kd p) := by rw [mI_sI_ne (by omega)]; exact hR0.2.2.1 p (by omega)
      have nc : ¬ (g ≠ -1 ∧ ctG T g = -1) := fun u => by
        apply a1
        rw [hv]
        unfold twV
        rw [if_pos rfl, if_pos u]
      rw [if_neg (by exact nv), if_pos (show mK (sI M 145 (32 + f) (i32 (p : Int))) 139 = 21 from k139), n139, if_pos inp, if_pos inf, nat_i (k := p) (by omega), es, ek]
      by_cases b1 : S.kd p = T.kd f
      · rw [if_pos (by rw [b1]), if_neg (fun u => u (Or.inr (Or.inr ⟨a1, Or.inl (by rw [Int.toNat_natCast]; exact b1)⟩)))]
        rfl
      · have nb : ¬ (i32 (S.kd p) = i32 (T.kd f)) := i32_ne (by omega) (by omega) (by omega) (by omega) b1
        rw [if_neg nb]
        by_cases b2 : S.kd p = 0
        · rw [if_pos (by rw [b2]; rfl)]
          by_cases b3 : T.kd f = 1
          · rw [if_pos (by rw [b3]; rfl), if_neg (fun u => u (Or.inr (Or.inr ⟨a1, Or.inr ⟨by rw [Int.toNat_natCast]; exact b2, b3⟩⟩)))]
            rfl
          · have n3 : ¬ (i32 (T.kd f) = i32 1) := i32_ne (by omega) (by omega) (by omega) (by omega) b3
            rw [if_neg (by exact n3), if_pos (fun u => by
              rcases u with u | u | u
              · exact nc u
              · exact a1 u.1
              · rw [Int.toNat_natCast] at u
                rcases u.2 with w | w
                · exact b1 w
                · exact b3 w.2)]
            rfl
        · have n2 : ¬ (i32 (S.kd p) = i32 0) := i32_ne (by omega) (by omega) (by omega) (by omega) b2
          rw [if_neg (by exact n2), if_pos (fun u => by
            rcases u with u | u | u
            · exact nc u
            · exact a1 u.1
            · rw [Int.toNat_natCast] at u
              rcases u.2 with w | w
              · exact b1 w
              · exact b2 w.1)]
          rfl
  by_cases c : g ≠ -1 ∧ ctG T g = -1
  · refine fin 0 (-1) (Or.inl rfl) (by omega) (by omega) ?_ ⟨fun _ => c, fun _ => rfl⟩ ?_
    · unfold twV
      rw [if_pos rfl, if_pos c]
    · have ng : ¬ (i32 g = i32 (-1)) := i32_ne (by omega) (by omega) (by omega) (by omega) c.1
      rw [st1]
      unfold f_X12_mayBeSeen_28
      rw [if_pos hL.k, r16, if_pos k140, n140, if_pos inf, nf, eg, if_neg (by exact ng), c.2, if_pos (by rfl)]
      unfold f_X12_mayBeSeen_49
      rw [if_pos hL.k, if_pos (by rfl), r21]
      rfl
  · have en := X12_fieldNamedAs hL ctb.1 ctb.2 (NmR.of0 hR0 hS) (NmR.of2 hR hT) hS hT hf (N := S.nf) (Nat.le_refl _) (by omega)
    have en : f_X12_fieldNamedAs 134 (0 : Int32) (i32 (S.nf : Int)) (i32 (ctG T g)) (i32 ((32 + f : Nat) : Int)) M = _ := en
    have fb := fnF_b S T (ctG T g) f S.nf 0
    refine fin 1 (fnF S T (ctG T g) f S.nf 0) (Or.inr rfl) (by omega) (by omega) ?_ ⟨fun u => absurd u (by omega), fun u => absurd u c⟩ ?_
    · unfold twV
      rw [if_pos rfl, if_neg c]
    · have e44 : f_X12_mayBeSeen_44 134 (i32 ((32 + f : Nat) : Int)) (i32 (ctG T g)) M = f_X12_mayBeSeen_76 134 (i32 ((32 + f : Nat) : Int)) (i32 1) 145 (i32 ((32 + f : Nat) : Int)) (i32 (fnF S T (ctG T g) f S.nf 0)) M := by
        unfold f_X12_mayBeSeen_44 f_X12_mayBeSeen_49
        rw [if_pos hL.k, if_neg (by decide), r23, if_pos k147, n147, if_pos (by decide), c0, hR0.1, bx en, r21]
        rfl
      rw [st1, ← e44]
      unfold f_X12_mayBeSeen_28
      rw [if_pos hL.k, r16, if_pos k140, n140, if_pos inf, nf, eg]
      by_cases u : g = -1
      · rw [if_pos (by rw [u]; rfl)]
      · have ng : ¬ (i32 g = i32 (-1)) := i32_ne (by omega) (by omega) (by omega) (by omega) u
        have nc : ¬ (i32 (ctG T g) = i32 (-1)) := i32_ne (by omega) (by omega) (by omega) (by omega) (fun w => c ⟨u, w⟩)
        rw [if_neg (by exact ng), if_neg (by exact nc)]
end
