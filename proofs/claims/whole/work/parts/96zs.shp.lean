/-! schema, view in the class: a Shape is filled -/
theorem bt_shl1 {l i : Nat} (hl : l < 8) (hi : i < 32) : bt ((1 : Int32) <<< (i32 (l : Int) &&& 31)) i = decide (i = l) := by
  have e : (1 : Int32) <<< (i32 (l : Int) &&& 31) = i32 ((2 ^ l : Nat) : Int) := by
    have : l = 0 ∨ l = 1 ∨ l = 2 ∨ l = 3 ∨ l = 4 ∨ l = 5 ∨ l = 6 ∨ l = 7 := by omega
    rcases this with h | h | h | h | h | h | h | h <;> subst h <;> decide
  rw [e, bt_nat (Int.natCast_nonneg _) hi, Int.toNat_natCast, Nat.testBit_two_pow]
  by_cases c : i = l
  · subst c; simp
  · rw [decide_eq_false c, decide_eq_false (fun u => c u.symm)]
def smF (S T : Sc) (i f : Nat) : Nat → Nat → Bool
  | 0, _ => true
  | k + 1, j => if S.nm (4 * i + j) = T.nm (4 * f + j) then smF S T i f k (j + 1) else false
def smN (S T : Sc) (i f : Nat) : Bool := if S.ln i = T.ln f then smF S T i f (S.ln i).toNat 0 else false
def fnF (S T : Sc) (a : Int) (f : Nat) : Nat → Nat → Int
  | 0, _ => -1
  | k + 1, i => if S.gr i = a ∧ smN S T i f = true then (i : Int) else fnF S T a f k (i + 1)
theorem smF_rf (T : Sc) (f : Nat) : ∀ k j, smF T T f f k j = true
  | 0, _ => rfl
  | k + 1, j => by
    unfold smF
    rw [if_pos rfl]
    exact smF_rf T f k (j + 1)
theorem smN_rf (T : Sc) (f : Nat) : smN T T f f = true := by
  unfold smN
  rw [if_pos rfl]
  exact smF_rf T f _ _
theorem fnF_b (S T : Sc) (a : Int) (f : Nat) : ∀ k i, fnF S T a f k i = -1 ∨ ((i : Int) ≤ fnF S T a f k i ∧ fnF S T a f k i < i + k ∧ S.gr (fnF S T a f k i).toNat = a)
  | 0, _ => Or.inl rfl
  | k + 1, i => by
    unfold fnF
    by_cases c : S.gr i = a ∧ smN S T i f = true
    · rw [if_pos c]
      exact Or.inr ⟨by omega, by omega, by rw [Int.toNat_natCast]; exact c.1⟩
    · rw [if_neg c]
      rcases fnF_b S T a f k (i + 1) with h | h
      · exact Or.inl h
      · exact Or.inr ⟨by omega, by omega, h.2.2⟩
theorem fnF_snoc (S T : Sc) (a : Int) (f : Nat) : ∀ k i, fnF S T a f (k + 1) i = if fnF S T a f k i ≠ -1 then fnF S T a f k i else if S.gr (i + k) = a ∧ smN S T (i + k) f = true then ((i + k : Nat) : Int) else -1
  | 0, i => by
    show (if S.gr i = a ∧ smN S T i f = true then (i : Int) else -1) = if ((-1 : Int) ≠ -1) then -1 else _
    rw [if_neg (show ¬ ((-1 : Int) ≠ -1) from fun h => h rfl)]
    rfl
  | k + 1, i => by
    have ih := fnF_snoc S T a f k (i + 1)
    have e : i + 1 + k = i + (k + 1) := by omega
    rw [e] at ih
    show (if S.gr i = a ∧ smN S T i f = true then (i : Int) else fnF S T a f (k + 1) (i + 1)) = if (if S.gr i = a ∧ smN S T i f = true then (i : Int) else fnF S T a f k (i + 1)) ≠ -1 then (if S.gr i = a ∧ smN S T i f = true then (i : Int) else fnF S T a f k (i + 1)) else _
    by_cases c : S.gr i = a ∧ smN S T i f = true
    · rw [if_pos c, if_pos c, if_pos (by omega)]
    · rw [if_neg c, if_neg c]
      exact ih
section
variable {M : Mem} {S T : Sc} {s q : Nat}
/-- the arrays of a Shape, one after the other -/
def shQ (q a : Nat) : Prop := q ≤ a ∧ a ≤ q + 11
theorem X5_open102 (hL : ShLay M q) {f : Nat} (hf : f < 16) (h0 : mI M q 0 = i32 f) : f_X5_openField_102 q (i32 f) M = some (i32 f, sI (sI (sI (sI (sI M (q + 6) f (i32 0)) (q + 8) f (i32 0)) (q + 9) f (i32 0)) (q + 10) f (i32 (-1))) q 0 (i32 ((f + 1 : Nat) : Int))) := by
  have kq : mK M q = 6 := by simp only [hL.o]
  have r7 : mR M q 7 = q + 6 := by simp only [hL.o]
  have k6 : mK M (q + 6) = 21 := by simp only [hL.o]
  have n6 : mN M (q + 6) = 16 := by simp only [hL.o]
  have r9 : mR M q 9 = q + 8 := by simp only [hL.o]
  have k8 : mK M (q + 8) = 21 := by simp only [hL.o]
  have n8 : mN M (q + 8) = 16 := by simp only [hL.o]
  have r10 : mR M q 10 = q + 9 := by simp only [hL.o]
  have k9 : mK M (q + 9) = 21 := by simp only [hL.o]
  have n9 : mN M (q + 9) = 16 := by simp only [hL.o]
  have r11 : mR M q 11 = q + 10 := by simp only [hL.o]
  have k10 : mK M (q + 10) = 21 := by simp only [hL.o]
  have n10 : mN M (q + 10) = 16 := by simp only [hL.o]
  have inf : inB (i32 (f : Int)) 16 = true := by simp (disch := omega) only [↓reduceIte, add_i0, cast_add1, cast_sub1, toNat120, i32_lit, i32_neg, i32_add, i32_sub, i32_mul, i32_nat, i32_le, i32_lt, i32_eq, inB_i, Int.toNat_natCast, mI_sI_eq, mI_sI_ne, mR_sR_eq, mR_sR_ne, mI_sR, mR_sI, mK_sI, mN_sI, mn_sI, mJ_sI, mK_sR, mN_sR, mn_sR, mJ_sR, mI_wI, mR_wI, mK_wI, mN_wI, mn_wI, mJ_wI, ↓bnd_of, ↓bndX_r, ↓bndX_l, ↓ap_nr, bnd_of, bndX_r, bndX_l, if_true, if_false, ite_true, ite_false, not_true_eq_false, not_false_eq_true, Nat.reduceAdd, Nat.reduceMul, Nat.reduceEqDiff, Int.reduceToNat, Int.reduceNeg, Ilt_t, Ilt_f, Ile_t, Ile_f, Ieq_t, Ieq_f, Nlt_t, Nlt_f, Nle_t, Nle_f, Neq_t, Neq_f, or_true, true_or, or_false, false_or, and_true, true_and, and_false, false_and, ne_eq, or_self, and_self, decide_true, decide_false, Bool.false_eq_true]
  have nf := nat_i (k := f) (by omega)
  have e0 : mI (sI (sI (sI (sI M (q + 6) f (i32 0)) (q + 8) f (i32 0)) (q + 9) f (i32 0)) (q + 10) f (i32 (-1))) q 0 + (1 : Int32) = i32 ((f + 1 : Nat) : Int) := by
    rw [mI_sI_ne (by omega), mI_sI_ne (by omega), mI_sI_ne (by omega), mI_sI_ne (by omega), h0, k_add1]
  have e0 : mI (sI (sI (sI (sI M (q + 6) f (0 : Int32)) (q + 8) f (0 : Int32)) (q + 9) f (0 : Int32)) (q + 10) f (-1 : Int32)) q 0 + (1 : Int32) = i32 ((f + 1 : Nat) : Int) := e0
  unfold f_X5_openField_102
  rw [if_pos kq, r7, if_pos k6, n6, if_pos inf, nf, ap_of, if_pos (by exact kq), mR_sI, r9, if_pos (by exact k8), mN_sI, n8, if_pos inf, ap_of, if_pos (by exact kq), mR_sI, mR_sI, r10, if_pos (by exact k9), mN_sI, mN_sI, n9, if_pos inf, ap_of, if_pos (by exact kq), mR_sI, mR_sI, mR_sI, r11, if_pos (by exact k10), mN_sI, mN_sI, mN_sI, n10, if_pos inf, ap_of, if_pos (by exact kq), e0, ap_of]
  rfl
/-- a field is opened: what stands in the arrays then -/
theorem X5_open56 (hL : ShLay M q) {f : Nat} (hf : f < 16) {g : Int} (g0 : -1 ≤ g) (gf : g < f) {x y : Int} : ∃ M', f_X5_openField_56 q (i32 g) (i32 f) (q + 5) (i32 f) (i32 y) (sI M (q + 4) f (i32 x)) = f_X5_openField_102 q (i32 f) M' ∧ Chg (fun a _ => a = q + 4 ∨ a = q + 5 ∨ a = q + 8) M M' ∧ mI M' (q + 4) f = (if g = -1 then i32 x else i32 x + mI M (q + 4) g.toNat) ∧ mI M' (q + 5) f = (if g = -1 then i32 y else i32 y + mI M (q + 5) g.toNat) ∧ (∀ j, j ≠ f → mI M' (q + 4) j = mI M (q + 4) j ∧ mI M' (q + 5) j = mI M (q + 5) j) ∧ ∀ j, mI M' (q + 8) j = if g = j then mI M (q + 8) j + i32 1 else mI M (q + 8) j := by
  have kq : mK M q = 6 := by simp only [hL.o]
  have r5 : mR M q 5 = q + 4 := by simp only [hL.o]
  have k4 : mK M (q + 4) = 21 := by simp only [hL.o]
  have n4 : mN M (q + 4) = 16 := by simp only [hL.o]
  have r6 : mR M q 6 = q + 5 := by simp only [hL.o]
  have k5 : mK M (q + 5) = 21 := by simp only [hL.o]
  have n5 : mN M (q + 5) = 16 := by simp only [hL.o]
  have r9 : mR M q 9 = q + 8 := by simp only [hL.o]
  have k8 : mK M (q + 8) = 21 := by simp only [hL.o]
  have n8 : mN M (q + 8) = 16 := by simp only [hL.o]
  have inf : inB (i32 (f : Int)) 16 = true := by simp (disch := omega) only [↓reduceIte, add_i0, cast_add1, cast_sub1, toNat120, i32_lit, i32_neg, i32_add, i32_sub, i32_mul, i32_nat, i32_le, i32_lt, i32_eq, inB_i, Int.toNat_natCast, mI_sI_eq, mI_sI_ne, mR_sR_eq, mR_sR_ne, mI_sR, mR_sI, mK_sI, mN_sI, mn_sI, mJ_sI, mK_sR, mN_sR, mn_sR, mJ_sR, mI_wI, mR_wI, mK_wI, mN_wI, mn_wI, mJ_wI, ↓bnd_of, ↓bndX_r, ↓bndX_l, ↓ap_nr, bnd_of, bndX_r, bndX_l, if_true, if_false, ite_true, ite_false, not_true_eq_false, not_false_eq_true, Nat.reduceAdd, Nat.reduceMul, Nat.reduceEqDiff, Int.reduceToNat, Int.reduceNeg, Ilt_t, Ilt_f, Ile_t, Ile_f, Ieq_t, Ieq_f, Nlt_t, Nlt_f, Nle_t, Nle_f, Neq_t, Neq_f, or_true, true_or, or_false, false_or, and_true, true_and, and_false, false_and, ne_eq, or_self, and_self, decide_true, decide_false, Bool.false_eq_true]
  have nf := nat_i (k := f) (by omega)
  by_cases c : g = -1
  · refine ⟨sI (sI M (q + 4) f (i32 x)) (q + 5) f (i32 y), ?_, ((Chg.rf _ M).sI (Or.inl rfl)).sI (Or.inr (Or.inl rfl)), ?_, ?_, fun j hj => ⟨?_, ?_⟩, fun j => ?_⟩
    · subst c
      unfold f_X5_openField_56
      rw [if_pos (by exact k5), mN_sI, n5, if_pos inf, nf, ap_of, if_pos (by rfl)]
    · rw [if_pos c, mI_sI_ne (by omega), mI_sI_eq]
    · rw [if_pos c, mI_sI_eq]
    · rw [mI_sI_ne (by omega), mI_sI_ne (by omega)]
    · rw [mI_sI_ne (by omega), mI_sI_ne (by omega)]
    · rw [mI_sI_ne (by omega), mI_sI_ne (by omega), if_neg (by omega)]
  · obtain ⟨p, rfl⟩ : ∃ p : Nat, g = p := ⟨g.toNat, by omega⟩
    have ing : inB (i32 (p : Int)) 16 = true := by simp (disch := omega) only [↓reduceIte, add_i0, cast_add1, cast_sub1, toNat120, i32_lit, i32_neg, i32_add, i32_sub, i32_mul, i32_nat, i32_le, i32_lt, i32_eq, inB_i, Int.toNat_natCast, mI_sI_eq, mI_sI_ne, mR_sR_eq, mR_sR_ne, mI_sR, mR_sI, mK_sI, mN_sI, mn_sI, mJ_sI, mK_sR, mN_sR, mn_sR, mJ_sR, mI_wI, mR_wI, mK_wI, mN_wI, mn_wI, mJ_wI, ↓bnd_of, ↓bndX_r, ↓bndX_l, ↓ap_nr, bnd_of, bndX_r, bndX_l, if_true, if_false, ite_true, ite_false, not_true_eq_false, not_false_eq_true, Nat.reduceAdd, Nat.reduceMul, Nat.reduceEqDiff, Int.reduceToNat, Int.reduceNeg, Ilt_t, Ilt_f, Ile_t, Ile_f, Ieq_t, Ieq_f, Nlt_t, Nlt_f, Nle_t, Nle_f, Neq_t, Neq_f, or_true, true_or, or_false, false_or, and_true, true_and, and_false, false_and, ne_eq, or_self, and_self, decide_true, decide_false, Bool.false_eq_true]
    have np := nat_i (k := p) (by omega)
    have ng : ¬ (i32 (p : Int) = i32 (-1)) := i32_ne (by omega) (by omega) (by omega) (by omega) c
    rw [Int.toNat_natCast]
    have a1 : mI (sI (sI M (q + 4) f (i32 x)) (q + 5) f (i32 y)) (q + 4) f = i32 x := by rw [mI_sI_ne (by omega), mI_sI_eq]
    have a2 : mI (sI (sI M (q + 4) f (i32 x)) (q + 5) f (i32 y)) (q + 4) p = mI M (q + 4) p := by rw [mI_sI_ne (by omega), mI_sI_ne (by omega)]
    have a3 : mI (sI (sI (sI M (q + 4) f (i32 x)) (q + 5) f (i32 y)) (q + 4) f (i32 x + mI M (q + 4) p)) (q + 5) f = i32 y := by rw [mI_sI_ne (by omega), mI_sI_eq]
    have a4 : mI (sI (sI (sI M (q + 4) f (i32 x)) (q + 5) f (i32 y)) (q + 4) f (i32 x + mI M (q + 4) p)) (q + 5) p = mI M (q + 5) p := by rw [mI_sI_ne (by omega), mI_sI_ne (by omega), mI_sI_ne (by omega)]
    have a5 : mI (sI (sI (sI (sI M (q + 4) f (i32 x)) (q + 5) f (i32 y)) (q + 4) f (i32 x + mI M (q + 4) p)) (q + 5) f (i32 y + mI M (q + 5) p)) (q + 8) p = mI M (q + 8) p := by rw [mI_sI_ne (by omega), mI_sI_ne (by omega), mI_sI_ne (by omega), mI_sI_ne (by omega)]
    refine ⟨sI (sI (sI (sI (sI M (q + 4) f (i32 x)) (q + 5) f (i32 y)) (q + 4) f (i32 x + mI M (q + 4) p)) (q + 5) f (i32 y + mI M (q + 5) p)) (q + 8) p (mI M (q + 8) p + i32 1), ?_, (((((Chg.rf _ M).sI (Or.inl rfl)).sI (Or.inr (Or.inl rfl))).sI (Or.inl rfl)).sI (Or.inr (Or.inl rfl))).sI (Or.inr (Or.inr rfl)), ?_, ?_, fun j hj => ⟨?_, ?_⟩, fun j => ?_⟩
    · unfold f_X5_openField_56
      rw [if_pos (by exact k5), mN_sI, n5, if_pos inf, nf, ap_of, if_neg (by exact ng), if_pos (by exact kq), mR_sI, mR_sI, r5, if_pos (by exact k4), mN_sI, mN_sI, n4, if_pos inf, if_pos ing, np, a1, a2, ap_of, if_pos (by exact kq), mR_sI, mR_sI, mR_sI, r6, if_pos (by exact k5), mN_sI, mN_sI, mN_sI, n5, if_pos inf, if_pos ing, a3, a4, ap_of, if_pos (by exact kq), mR_sI, mR_sI, mR_sI, mR_sI, r9, if_pos (by exact k8), mN_sI, mN_sI, mN_sI, mN_sI, n8, if_pos ing, a5, ap_of]
      rfl
    · rw [if_neg c, mI_sI_ne (by omega), mI_sI_ne (by omega), mI_sI_eq]
    · rw [if_neg c, mI_sI_ne (by omega), mI_sI_eq]
    · rw [mI_sI_ne (by omega), mI_sI_ne (by omega), mI_sI_ne (by omega), mI_sI_ne (by omega), mI_sI_ne (by omega)]
    · rw [mI_sI_ne (by omega), mI_sI_ne (by omega), mI_sI_ne (by omega), mI_sI_ne (by omega), mI_sI_ne (by omega)]
    · by_cases e : p = j
      · subst e
        rw [mI_sI_eq, if_pos rfl]
      · rw [mI_sI_ne (by omega), mI_sI_ne (by omega), mI_sI_ne (by omega), mI_sI_ne (by omega), mI_sI_ne (by omega), if_neg (by omega)]
theorem X5_openField (hL : ShLay M q) (hC : CSh M q T) (hok : T.ok) (h16 : T.nf < 16) {w g : Int} (w0 : 0 ≤ w) (w2 : w ≤ 2) (g0 : -1 ≤ g) (gf : g < T.nf) : ∃ M', f_X5_openField q (i32 w) (i32 g) M = some (i32 T.nf, M') ∧ Chg (fun a _ => q ≤ a ∧ a ≤ q + 11) M M' ∧ CSh M' q (T.opn w g) := by
  obtain ⟨c0, c1, c2, c3, c4, c5, c6, c7, c8, c9, c10, c11, c12⟩ := hC
  have kq : mK M q = 6 := by simp only [hL.o]
  have r2 : mR M q 2 = q + 1 := by simp only [hL.o]
  have k1 : mK M (q + 1) = 21 := by simp only [hL.o]
  have n1 : mN M (q + 1) = 16 := by simp only [hL.o]
  have r3 : mR M q 3 = q + 2 := by simp only [hL.o]
  have k2 : mK M (q + 2) = 21 := by simp only [hL.o]
  have n2 : mN M (q + 2) = 16 := by simp only [hL.o]
  have r4 : mR M q 4 = q + 3 := by simp only [hL.o]
  have k3 : mK M (q + 3) = 21 := by simp only [hL.o]
  have n3 : mN M (q + 3) = 16 := by simp only [hL.o]
  have r5 : mR M q 5 = q + 4 := by simp only [hL.o]
  have k4 : mK M (q + 4) = 21 := by simp only [hL.o]
  have n4 : mN M (q + 4) = 16 := by simp only [hL.o]
  have r6 : mR M q 6 = q + 5 := by simp only [hL.o]
  have inf : inB (i32 (T.nf : Int)) 16 = true := by simp (disch := omega) only [↓reduceIte, add_i0, cast_add1, cast_sub1, toNat120, i32_lit, i32_neg, i32_add, i32_sub, i32_mul, i32_nat, i32_le, i32_lt, i32_eq, inB_i, Int.toNat_natCast, mI_sI_eq, mI_sI_ne, mR_sR_eq, mR_sR_ne, mI_sR, mR_sI, mK_sI, mN_sI, mn_sI, mJ_sI, mK_sR, mN_sR, mn_sR, mJ_sR, mI_wI, mR_wI, mK_wI, mN_wI, mn_wI, mJ_wI, ↓bnd_of, ↓bndX_r, ↓bndX_l, ↓ap_nr, bnd_of, bndX_r, bndX_l, if_true, if_false, ite_true, ite_false, not_true_eq_false, not_false_eq_true, Nat.reduceAdd, Nat.reduceMul, Nat.reduceEqDiff, Int.reduceToNat, Int.reduceNeg, Ilt_t, Ilt_f, Ile_t, Ile_f, Ieq_t, Ieq_f, Nlt_t, Nlt_f, Nle_t, Nle_f, Neq_t, Neq_f, or_true, true_or, or_false, false_or, and_true, true_and, and_false, false_and, ne_eq, or_self, and_self, decide_true, decide_false, Bool.false_eq_true]
  have nf := nat_i (k := T.nf) (by omega)
  obtain ⟨M3, em3⟩ : ∃ M3, sI (sI (sI M (q + 1) T.nf (i32 w)) (q + 2) T.nf (i32 g)) (q + 3) T.nf (i32 (-1)) = M3 := ⟨_, rfl⟩
  have em3' : sI (sI (sI M (q + 1) T.nf (i32 w)) (q + 2) T.nf (i32 g)) (q + 3) T.nf (-1 : Int32) = M3 := em3
  have g3 : Chg (fun a _ => a = q + 1 ∨ a = q + 2 ∨ a = q + 3) M M3 := by
    rw [← em3]
    exact (((Chg.rf _ M).sI (Or.inl rfl)).sI (Or.inr (Or.inl rfl))).sI (Or.inr (Or.inr rfl))
  have hL3 := hL.all g3
  have kq3 : mK M3 q = 6 := by simp only [hL3.o]
  have r53 : mR M3 q 5 = q + 4 := by simp only [hL3.o]
  have k43 : mK M3 (q + 4) = 21 := by simp only [hL3.o]
  have n43 : mN M3 (q + 4) = 16 := by simp only [hL3.o]
  have r63 : mR M3 q 6 = q + 5 := by simp only [hL3.o]
  obtain ⟨M4, e4, g4, p4, p5, pj, p8⟩ := X5_open56 (M := M3) hL3 (f := T.nf) h16 g0 gf (x := if w = 0 then 0 else 1) (y := if w = 2 then 1 else 0)
  have hL4 := hL3.all g4
  have h04 : mI M4 q 0 = i32 T.nf := by rw [g4.i (by omega), g3.i (by omega)]; exact c0
  have e5 := X5_open102 hL4 h16 h04
  have st : f_X5_openField q (i32 w) (i32 g) M = f_X5_openField_102 q (i32 T.nf) M4 := by
    rw [← e4]
    have e40 : ∀ x : Int, f_X5_openField_40 q (i32 w) (i32 g) (i32 T.nf) (q + 4) (i32 T.nf) (i32 x) M3 = f_X5_openField_56 q (i32 g) (i32 T.nf) (q + 5) (i32 T.nf) (i32 (if w = 2 then 1 else 0)) (sI M3 (q + 4) T.nf (i32 x)) := fun x => by
      unfold f_X5_openField_40
      rw [if_pos k43, n43, if_pos inf, nf, ap_of, if_pos (by exact kq3), mR_sI, r63]
      by_cases c : w = 2
      · rw [if_pos c, if_pos (by rw [c]; rfl)]
        rfl
      · have nc : ¬ (i32 w = i32 2) := i32_ne (by omega) (by omega) (by omega) (by omega) c
        rw [if_neg c, if_neg (by exact nc)]
        rfl
    unfold f_X5_openField
    rw [if_pos kq, r2, if_pos k1, c0, n1, if_pos inf, nf, ap_of, if_pos (by exact kq), mR_sI, r3, if_pos (by exact k2), mN_sI, n2, if_pos inf, ap_of, if_pos (by exact kq), mR_sI, mR_sI, r4, if_pos (by exact k3), mN_sI, mN_sI, n3, if_pos inf, ap_of, em3', if_pos kq3, r53]
    by_cases c : w = 0
    · rw [if_pos c, if_pos (by rw [c]; rfl)]
      exact e40 0
    · have nc : ¬ (i32 w = i32 0) := i32_ne (by omega) (by omega) (by omega) (by omega) c
      rw [if_neg c, if_neg (by exact nc)]
      exact e40 1
  obtain ⟨M5, em5⟩ : ∃ M5, sI (sI (sI (sI (sI M4 (q + 6) T.nf (i32 0)) (q + 8) T.nf (i32 0)) (q + 9) T.nf (i32 0)) (q + 10) T.nf (i32 (-1))) q 0 (i32 ((T.nf + 1 : Nat) : Int)) = M5 := ⟨_, rfl⟩
  rw [em5] at e5
  have g5 : Chg (fun a _ => a = q ∨ a = q + 6 ∨ a = q + 8 ∨ a = q + 9 ∨ a = q + 10) M4 M5 := by
    rw [← em5]
    exact (((((Chg.rf _ M4).sI (by omega)).sI (by omega)).sI (by omega)).sI (by omega)).sI (by omega)
  have rd : ∀ a j, (a ≠ q + 6 ∧ a ≠ q + 8 ∧ a ≠ q + 9 ∧ a ≠ q + 10 ∧ a ≠ q) ∨ (j ≠ T.nf ∧ a ≠ q) → mI M5 a j = mI M4 a j := fun a j h => by
    rw [← em5, mI_sI_ne (by omega), mI_sI_ne (by omega), mI_sI_ne (by omega), mI_sI_ne (by omega), mI_sI_ne (by omega)]
  have r3' : ∀ a j, a ≠ q + 4 → a ≠ q + 5 → a ≠ q + 8 → mI M4 a j = mI M3 a j := fun a j h1 h2 h3 => g4.i (by omega)
  have rM : ∀ a j, j ≠ T.nf → mI M3 a j = mI M a j := fun a j h => by rw [← em3, mI_sI_ne (by omega), mI_sI_ne (by omega), mI_sI_ne (by omega)]
  have rQ : ∀ a j, a ≠ q + 1 → a ≠ q + 2 → a ≠ q + 3 → mI M3 a j = mI M a j := fun a j h1 h2 h3 => g3.i (by omega)
  have old : ∀ f, f < T.nf + 1 → f ≠ T.nf → f < T.nf := fun f h1 h2 => by omega
  have gq : ∀ f, (T.opn w g).gr f = if f = T.nf then g else T.gr f := fun f => rfl
  have fol : ∀ l, l < T.nl → T.fo l < T.nf := fun l hl => (hok.2.2.2.2.2.2.2.2.2.2 l hl).1
  have hg4 := hok.2.2.2.1
  refine ⟨M5, st.trans e5, (g3.mono (fun a j h => by omega)).tr ((g4.mono (fun a j h => by omega)).tr (g5.mono (fun a j h => by omega))), ?_, ?_, fun f hf => ?_, fun f hf => ?_, fun f hf => ?_, fun f hf => ?_, fun f hf => ?_, fun f hf => ?_, fun f i hf hi => ?_, fun f hf => ?_, fun f i hf hi => ?_, fun f hf => ?_, fun l hl => ?_⟩
  · rw [← em5, mI_sI_eq]
    rfl
  · have : mI M5 q 1 = mI M4 q 1 := by rw [← em5, mI_sI_ne (by omega), mI_sI_ne (by omega), mI_sI_ne (by omega), mI_sI_ne (by omega), mI_sI_ne (by omega)]
    rw [this, r3' _ _ (by omega) (by omega) (by omega), rQ _ _ (by omega) (by omega) (by omega)]
    exact c1
  · rw [rd _ _ (by omega), r3' _ _ (by omega) (by omega) (by omega)]
    show _ = i32 (upf T.kd T.nf w f)
    by_cases e : f = T.nf
    · rw [e, upf_eq, ← em3, mI_sI_ne (by omega), mI_sI_ne (by omega), mI_sI_eq]
    · rw [upf_ne _ _ e, rM _ _ e]
      exact c2 f (old f hf e)
  · rw [rd _ _ (by omega), r3' _ _ (by omega) (by omega) (by omega)]
    show _ = i32 (upf T.gr T.nf g f)
    by_cases e : f = T.nf
    · rw [e, upf_eq, ← em3, mI_sI_ne (by omega), mI_sI_eq]
    · rw [upf_ne _ _ e, rM _ _ e]
      exact c3 f (old f hf e)
  · rw [rd _ _ (by omega), r3' _ _ (by omega) (by omega) (by omega)]
    show _ = i32 (upf T.lf T.nf (-1) f)
    by_cases e : f = T.nf
    · rw [e, upf_eq, ← em3, mI_sI_eq]
    · rw [upf_ne _ _ e, rM _ _ e]
      exact c4 f (old f hf e)
  · rw [rd _ _ (by omega)]
    show _ = i32 (upf T.sd T.nf (T.dg g + (if w = 0 then 0 else 1)) f)
    by_cases e : f = T.nf
    · rw [e, upf_eq, p4]
      unfold Sc.dg
      by_cases u : g = -1
      · rw [if_pos u, if_pos u, Int.zero_add]
      · rw [if_neg u, if_neg u, rQ _ _ (by omega) (by omega) (by omega), c5 _ (by omega), i32_add, Int.add_comm]
    · rw [upf_ne _ _ e, (pj f e).1, rM _ _ e]
      exact c5 f (old f hf e)
  · rw [rd _ _ (by omega)]
    show _ = i32 (upf T.sr T.nf (T.lv g + (if w = 2 then 1 else 0)) f)
    by_cases e : f = T.nf
    · rw [e, upf_eq, p5]
      unfold Sc.lv
      by_cases u : g = -1
      · rw [if_pos u, if_pos u, Int.zero_add]
      · rw [if_neg u, if_neg u, rQ _ _ (by omega) (by omega) (by omega), c6 _ (by omega), i32_add, Int.add_comm]
    · rw [upf_ne _ _ e, (pj f e).2, rM _ _ e]
      exact c6 f (old f hf e)
  · show _ = i32 (upf T.ln T.nf 0 f)
    by_cases e : f = T.nf
    · rw [e, upf_eq, ← em5, mI_sI_ne (by omega), mI_sI_ne (by omega), mI_sI_ne (by omega), mI_sI_ne (by omega), mI_sI_eq]
    · rw [upf_ne _ _ e, rd _ _ (by omega), r3' _ _ (by omega) (by omega) (by omega), rQ _ _ (by omega) (by omega) (by omega)]
      exact c7 f (old f hf e)
  · have hi : (i : Int) < upf T.ln T.nf 0 f := hi
    by_cases e : f = T.nf
    · rw [e, upf_eq] at hi
      omega
    · rw [upf_ne _ _ e] at hi
      rw [rd _ _ (by omega), r3' _ _ (by omega) (by omega) (by omega), rQ _ _ (by omega) (by omega) (by omega)]
      exact c8 f i (old f hf e) hi
  · rw [opn_kids]
    by_cases e : f = T.nf
    · have z : T.kids f = i32 0 := by
        rw [kids_cnt, cnt_zero _ _ (fun i _ hi => decide_eq_false (fun u => by
          have := hg4 i
          omega))]
        rfl
      rw [if_neg (by omega), z, e, ← em5, mI_sI_ne (by omega), mI_sI_ne (by omega), mI_sI_ne (by omega), mI_sI_eq]
    · rw [rd _ _ (by omega), p8, rQ _ _ (by omega) (by omega) (by omega), c9 f (old f hf e)]
  · by_cases e : f = T.nf
    · have b0 : mI M5 (q + 9) f = i32 0 := by rw [e, ← em5, mI_sI_ne (by omega), mI_sI_ne (by omega), mI_sI_eq]
      rw [b0, bt_zero]
      show false = (decide (i < T.nl) && (T.opn w g).ins (T.fo i) f)
      by_cases u : i < T.nl
      · have fl := fol i u
        rw [opn_ins hg4 w g (by omega) (by omega)]
        cases hi2 : T.ins (T.fo i) f
        · rw [Bool.and_false]
        · have := Sc.ins_le hok (k := (T.fo i : Int)) (by omega) (by omega) hi2
          omega
      · rw [decide_eq_false u, Bool.false_and]
    · rw [rd _ _ (by omega), r3' _ _ (by omega) (by omega) (by omega), rQ _ _ (by omega) (by omega) (by omega), c10 f i (old f hf e) hi]
      show (decide (i < T.nl) && T.ins (T.fo i) f) = (decide (i < T.nl) && (T.opn w g).ins (T.fo i) f)
      by_cases u : i < T.nl
      · have fl := fol i u
        rw [opn_ins hg4 w g (by omega) (by omega)]
      · rw [decide_eq_false u, Bool.false_and, Bool.false_and]
  · show _ = i32 (upf T.tw T.nf (-1) f)
    by_cases e : f = T.nf
    · rw [e, upf_eq, ← em5, mI_sI_ne (by omega), mI_sI_eq]
    · rw [upf_ne _ _ e, rd _ _ (by omega), r3' _ _ (by omega) (by omega) (by omega), rQ _ _ (by omega) (by omega) (by omega)]
      exact c11 f (old f hf e)
  · rw [rd _ _ (by omega), r3' _ _ (by omega) (by omega) (by omega), rQ _ _ (by omega) (by omega) (by omega)]
    exact c12 l hl
end
