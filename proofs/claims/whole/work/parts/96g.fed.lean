/-! feed; a text is opened; what is noted of a fault -/
theorem ush_btg (x : Int32) {s i : Nat} (h : s < 32) : bt ((x.toUInt32 >>> ((i32 s).toUInt32 &&& Int32.toUInt32 (i32 31))).toInt32) i = bt x (s + i) := by
  have e : ((i32 (s : Int)).toUInt32 &&& Int32.toUInt32 (i32 31)).toNat = s := by
    rw [UInt32.toNat_and]
    show (BitVec.ofInt 32 (s : Int)).toNat &&& 31 = s
    rw [BitVec.ofInt_natCast, BitVec.toNat_ofNat, Nat.mod_eq_of_lt (by omega), nat31 h]
  unfold bt
  show ((x.toUInt32 >>> ((i32 s).toUInt32 &&& Int32.toUInt32 (i32 31))).toBitVec).getLsbD i = _
  rw [UInt32.toBitVec_shiftRight]
  show (x.toBitVec >>> (((i32 (s : Int)).toUInt32 &&& Int32.toUInt32 (i32 31)).toBitVec % 32)).getLsbD i = _
  have e2 : (((i32 (s : Int)).toUInt32 &&& Int32.toUInt32 (i32 31)).toBitVec % 32).toNat = s := by
    rw [BitVec.toNat_umod]
    show ((i32 (s : Int)).toUInt32 &&& Int32.toUInt32 (i32 31)).toNat % 32 = s
    rw [e]
    omega
  rw [BitVec.ushiftRight_eq', BitVec.getLsbD_ushiftRight, e2]
theorem ssh_btg (x : Int32) {s i : Nat} (h : s + i < 32) : bt (x >>> (i32 s &&& i32 31)) i = bt x (s + i) := by
  unfold bt
  rw [Int32.toBitVec_shiftRight]
  have e2 : ((i32 (s : Int) &&& i32 31).toBitVec.smod 32).toNat = s := by
    have : (i32 (s : Int) &&& i32 31).toBitVec = BitVec.ofNat 32 s := by
      apply BitVec.eq_of_toNat_eq
      rw [Int32.toBitVec_and, BitVec.toNat_and]
      show (BitVec.ofInt 32 (s : Int)).toNat &&& 31 = _
      rw [BitVec.ofInt_natCast, BitVec.toNat_ofNat, Nat.mod_eq_of_lt (by omega), nat31 (by omega)]
    rw [this]
    have : ∀ i : Fin 32, ((BitVec.ofNat 32 i.val).smod 32).toNat = i.val := by decide
    exact this ⟨s, by omega⟩
  rw [BitVec.sshiftRight_eq', e2, BitVec.getLsbD_sshiftRight]
  have h1 : ¬ 32 ≤ i := by omega
  simp [h1, h]
theorem bt_low {m : Nat} (hm : m < 31) {i : Nat} (h : i < 32) : bt (i32 ((2 ^ m - 1 : Nat) : Int)) i = decide (i < m) := by
  rw [bt_nat (by omega) h, Int.toNat_natCast, Nat.testBit_two_pow_sub_one]
/-- both shifts, cut to the low bits -/
theorem shEq (x : Int32) {s m : Nat} (h : s + m ≤ 32) (hm : m < 31) (hs : s < 32) : ((x.toUInt32 >>> ((i32 s).toUInt32 &&& Int32.toUInt32 (i32 31))).toInt32) &&& i32 ((2 ^ m - 1 : Nat) : Int) = (x >>> (i32 s &&& i32 31)) &&& i32 ((2 ^ m - 1 : Nat) : Int) := by
  apply bt_ext
  intro i hi
  rw [bt_and, bt_and, bt_low hm hi]
  by_cases c : i < m
  · rw [ush_btg x hs, ssh_btg x (show s + i < 32 by omega)]
  · simp [c]
theorem and_low (x : Int32) {m : Nat} (hm : m < 31) : 0 ≤ (x &&& i32 ((2 ^ m - 1 : Nat) : Int)).toInt ∧ (x &&& i32 ((2 ^ m - 1 : Nat) : Int)).toInt ≤ ((2 ^ m - 1 : Nat) : Int) := by
  have hp : 2 ^ m ≤ 2 ^ 30 := Nat.pow_le_pow_right (by omega) (by omega)
  have e : (x &&& i32 ((2 ^ m - 1 : Nat) : Int)).toBitVec.toNat ≤ 2 ^ m - 1 := by
    rw [Int32.toBitVec_and, BitVec.toNat_and]
    have : (i32 ((2 ^ m - 1 : Nat) : Int)).toBitVec.toNat = 2 ^ m - 1 := by
      show (BitVec.ofInt 32 ((2 ^ m - 1 : Nat) : Int)).toNat = _
      rw [BitVec.ofInt_natCast, BitVec.toNat_ofNat, Nat.mod_eq_of_lt (by omega)]
    rw [this]
    exact Nat.and_le_right
  have e2 : (x &&& i32 ((2 ^ m - 1 : Nat) : Int)).toInt = ((x &&& i32 ((2 ^ m - 1 : Nat) : Int)).toBitVec.toNat : Int) := by
    show (x &&& i32 ((2 ^ m - 1 : Nat) : Int)).toBitVec.toInt = _
    rw [BitVec.toInt_eq_toNat_of_lt (by omega)]
  omega
/-- the k-th byte of a number -/
def byteOf (v : Int32) (k : Nat) : Int := ((v >>> (i32 ((24 - 8 * k : Nat) : Int) &&& i32 31)) &&& i32 255).toInt
theorem byteOf_b (v : Int32) (k : Nat) : 0 ≤ byteOf v k ∧ byteOf v k ≤ 255 := and_low (v >>> (i32 ((24 - 8 * k : Nat) : Int) &&& i32 31)) (m := 8) (by omega)
theorem byte_r (v : Int32) (k : Nat) : (v >>> (i32 ((24 - 8 * k : Nat) : Int) &&& i32 31)) &&& i32 255 = i32 (byteOf v k) := (i32_of _).symm
theorem byte_c (v : Int32) {k : Nat} (hk : k < 4) : ((v.toUInt32 >>> ((i32 ((24 - 8 * k : Nat) : Int)).toUInt32 &&& Int32.toUInt32 (i32 31))).toInt32) &&& i32 255 = i32 (byteOf v k) := by
  rw [← byte_r]
  exact shEq v (m := 8) (by omega) (by omega) (by omega)
def wsel (a b c d e : Int32) (k : Nat) : Int32 := if k < 4 then a else if k < 8 then b else if k < 12 then c else if k < 16 then d else e
/-- the tape with twenty bytes more -/
def feedT (t : Nat → Int) (z : Nat) (a b c d e : Int32) (j : Nat) : Int := if z ≤ j ∧ j < z + 20 then byteOf (wsel a b c d e (j - z)) ((j - z) % 4) else t j
def TPc (M : Mem) (t : Nat → Int) (z : Nat) : Prop := mI M 2 1 = i32 z ∧ (∀ i, i < z → mI M 3 i = i32 (t i)) ∧ z ≤ 700 ∧ ∀ i, 0 ≤ t i ∧ t i ≤ 255
def TPr (M : Mem) (t : Nat → Int) (z : Nat) : Prop := mI M 134 5 = i32 z ∧ (∀ i, i < z → mI M 137 i = i32 (t i)) ∧ z ≤ 700 ∧ ∀ i, 0 ≤ t i ∧ t i ≤ 255
def fdC (a j : Nat) : Prop := a = 3 ∨ (a = 2 ∧ j = 1)
def fdR (a j : Nat) : Prop := a = 137 ∨ (a = 134 ∧ j = 5)
section
variable {M : Mem} {t : Nat → Int} {z : Nat}
theorem X9_append (hL : CLay M) (h1 : mI M 2 1 = i32 z) (hz : z + 4 ≤ 700) (v : Int32) : ∃ M', f_X9_append 2 v M = some ((), M') ∧ Chg fdC M M' ∧ mI M' 2 1 = i32 ((z + 4 : Nat) : Int) ∧ (∀ j, j < z → mI M' 3 j = mI M 3 j) ∧ ∀ k, k < 4 → mI M' 3 (z + k) = i32 (byteOf v k) := by
  have step : ∀ (n y k : Nat) (M : Mem), CLay M → mI M 2 1 = i32 y → y < 700 → k < 4 → f_X9_append_3 (n + 1) 2 v (i32 ((24 - 8 * k : Nat) : Int)) M = f_X9_append_3 n 2 v (i32 (24 - 8 * ((k + 1 : Nat) : Int))) (sI (sI M 3 y (i32 (byteOf v k))) 2 1 (i32 ((y + 1 : Nat) : Int))) := by
    intro n y k M hL h1 hy hk
    have eb := byte_c v hk
    have e2 : i32 (((24 - 8 * k : Nat) : Int) + -8) = i32 (24 - 8 * ((k + 1 : Nat) : Int)) := by congr 1; omega
    conv => lhs; unfold f_X9_append_3
    simp (disch := omega) only [↓reduceIte, add_i0, cast_add1, cast_sub1, toNat120, i32_lit, i32_neg, i32_add, i32_sub, i32_mul, i32_nat, i32_le, i32_lt, i32_eq, inB_i, Int.toNat_natCast, mI_sI_eq, mI_sI_ne, mR_sR_eq, mR_sR_ne, mI_sR, mR_sI, mK_sI, mN_sI, mn_sI, mJ_sI, mK_sR, mN_sR, mn_sR, mJ_sR, mI_wI, mR_wI, mK_wI, mN_wI, mn_wI, mJ_wI, ↓bnd_of, ↓bndX_r, ↓bndX_l, ↓ap_nr, bnd_of, bndX_r, bndX_l, if_true, if_false, ite_true, ite_false, not_true_eq_false, not_false_eq_true, Nat.reduceAdd, Nat.reduceMul, Nat.reduceEqDiff, Int.reduceToNat, Int.reduceNeg, Ilt_t, Ilt_f, Ile_t, Ile_f, Ieq_t, Ieq_f, Nlt_t, Nlt_f, Nle_t, Nle_f, Neq_t, Neq_f, or_true, true_or, or_false, false_or, and_true, true_and, and_false, false_and, ne_eq, or_self, and_self, decide_true, decide_false, Bool.false_eq_true, hL.o, h1, eb, e2]
  obtain ⟨fu, hfu⟩ : ∃ fu, FUEL = fu + 5 := ⟨FUEL - 5, by unfold FUEL; omega⟩
  have g1 : Chg fdC M (sI (sI M 3 z (i32 (byteOf v 0))) 2 1 (i32 ((z + 1 : Nat) : Int))) := ((Chg.rf _ M).sI (by unfold fdC; omega)).sI (by unfold fdC; omega)
  have s0 := step (fu + 4) z 0 M hL h1 (by omega) (by omega)
  have s1 := step (fu + 3) (z + 1) 1 _ (hL.all g1) mI_sI_eq (by omega) (by omega)
  have g2 := (g1.sI (a := 3) (k := z + 1) (v := i32 (byteOf v 1)) (by unfold fdC; omega)).sI (a := 2) (k := 1) (v := i32 ((z + 1 + 1 : Nat) : Int)) (by unfold fdC; omega)
  have s2 := step (fu + 2) (z + 1 + 1) 2 _ (hL.all g2) mI_sI_eq (by omega) (by omega)
  have g3 := (g2.sI (a := 3) (k := z + 1 + 1) (v := i32 (byteOf v 2)) (by unfold fdC; omega)).sI (a := 2) (k := 1) (v := i32 ((z + 1 + 1 + 1 : Nat) : Int)) (by unfold fdC; omega)
  have s3 := step (fu + 1) (z + 1 + 1 + 1) 3 _ (hL.all g3) mI_sI_eq (by omega) (by omega)
  have g4 := (g3.sI (a := 3) (k := z + 1 + 1 + 1) (v := i32 (byteOf v 3)) (by unfold fdC; omega)).sI (a := 2) (k := 1) (v := i32 ((z + 1 + 1 + 1 + 1 : Nat) : Int)) (by unfold fdC; omega)
  refine ⟨_, ?_, g4, ?_, fun j hj => ?_, fun k hk => ?_⟩
  · unfold f_X9_append
    rw [hfu]
    have s0 : f_X9_append_3 (fu + 5) 2 v (24 : Int32) M = _ := s0
    rw [s0]
    have s1 : f_X9_append_3 (fu + 4) 2 v (i32 (24 - 8 * ((0 + 1 : Nat) : Int))) _ = _ := s1
    rw [s1]
    have s2 : f_X9_append_3 (fu + 3) 2 v (i32 (24 - 8 * ((1 + 1 : Nat) : Int))) _ = _ := s2
    rw [s2]
    have s3 : f_X9_append_3 (fu + 2) 2 v (i32 (24 - 8 * ((2 + 1 : Nat) : Int))) _ = _ := s3
    rw [s3]
    unfold f_X9_append_3
    rw [if_pos (by decide)]
  · simp (disch := omega) only [↓reduceIte, add_i0, cast_add1, cast_sub1, toNat120, i32_lit, i32_neg, i32_add, i32_sub, i32_mul, i32_nat, i32_le, i32_lt, i32_eq, inB_i, Int.toNat_natCast, mI_sI_eq, mI_sI_ne, mR_sR_eq, mR_sR_ne, mI_sR, mR_sI, mK_sI, mN_sI, mn_sI, mJ_sI, mK_sR, mN_sR, mn_sR, mJ_sR, mI_wI, mR_wI, mK_wI, mN_wI, mn_wI, mJ_wI, ↓bnd_of, ↓bndX_r, ↓bndX_l, ↓ap_nr, bnd_of, bndX_r, bndX_l, if_true, if_false, ite_true, ite_false, not_true_eq_false, not_false_eq_true, Nat.reduceAdd, Nat.reduceMul, Nat.reduceEqDiff, Int.reduceToNat, Int.reduceNeg, Ilt_t, Ilt_f, Ile_t, Ile_f, Ieq_t, Ieq_f, Nlt_t, Nlt_f, Nle_t, Nle_f, Neq_t, Neq_f, or_true, true_or, or_false, false_or, and_true, true_and, and_false, false_and, ne_eq, or_self, and_self, decide_true, decide_false, Bool.false_eq_true]
  · simp (disch := omega) only [↓reduceIte, add_i0, cast_add1, cast_sub1, toNat120, i32_lit, i32_neg, i32_add, i32_sub, i32_mul, i32_nat, i32_le, i32_lt, i32_eq, inB_i, Int.toNat_natCast, mI_sI_eq, mI_sI_ne, mR_sR_eq, mR_sR_ne, mI_sR, mR_sI, mK_sI, mN_sI, mn_sI, mJ_sI, mK_sR, mN_sR, mn_sR, mJ_sR, mI_wI, mR_wI, mK_wI, mN_wI, mn_wI, mJ_wI, ↓bnd_of, ↓bndX_r, ↓bndX_l, ↓ap_nr, bnd_of, bndX_r, bndX_l, if_true, if_false, ite_true, ite_false, not_true_eq_false, not_false_eq_true, Nat.reduceAdd, Nat.reduceMul, Nat.reduceEqDiff, Int.reduceToNat, Int.reduceNeg, Ilt_t, Ilt_f, Ile_t, Ile_f, Ieq_t, Ieq_f, Nlt_t, Nlt_f, Nle_t, Nle_f, Neq_t, Neq_f, or_true, true_or, or_false, false_or, and_true, true_and, and_false, false_and, ne_eq, or_self, and_self, decide_true, decide_false, Bool.false_eq_true]
  · have hc : k = 0 ∨ k = 1 ∨ k = 2 ∨ k = 3 := by omega
    rcases hc with rfl | rfl | rfl | rfl
    · simp (disch := omega) only [↓reduceIte, add_i0, cast_add1, cast_sub1, toNat120, i32_lit, i32_neg, i32_add, i32_sub, i32_mul, i32_nat, i32_le, i32_lt, i32_eq, inB_i, Int.toNat_natCast, mI_sI_eq, mI_sI_ne, mR_sR_eq, mR_sR_ne, mI_sR, mR_sI, mK_sI, mN_sI, mn_sI, mJ_sI, mK_sR, mN_sR, mn_sR, mJ_sR, mI_wI, mR_wI, mK_wI, mN_wI, mn_wI, mJ_wI, ↓bnd_of, ↓bndX_r, ↓bndX_l, ↓ap_nr, bnd_of, bndX_r, bndX_l, if_true, if_false, ite_true, ite_false, not_true_eq_false, not_false_eq_true, Nat.reduceAdd, Nat.reduceMul, Nat.reduceEqDiff, Int.reduceToNat, Int.reduceNeg, Ilt_t, Ilt_f, Ile_t, Ile_f, Ieq_t, Ieq_f, Nlt_t, Nlt_f, Nle_t, Nle_f, Neq_t, Neq_f, or_true, true_or, or_false, false_or, and_true, true_and, and_false, false_and, ne_eq, or_self, and_self, decide_true, decide_false, Bool.false_eq_true]
      exact mI_sI_eq
    · simp (disch := omega) only [↓reduceIte, add_i0, cast_add1, cast_sub1, toNat120, i32_lit, i32_neg, i32_add, i32_sub, i32_mul, i32_nat, i32_le, i32_lt, i32_eq, inB_i, Int.toNat_natCast, mI_sI_eq, mI_sI_ne, mR_sR_eq, mR_sR_ne, mI_sR, mR_sI, mK_sI, mN_sI, mn_sI, mJ_sI, mK_sR, mN_sR, mn_sR, mJ_sR, mI_wI, mR_wI, mK_wI, mN_wI, mn_wI, mJ_wI, ↓bnd_of, ↓bndX_r, ↓bndX_l, ↓ap_nr, bnd_of, bndX_r, bndX_l, if_true, if_false, ite_true, ite_false, not_true_eq_false, not_false_eq_true, Nat.reduceAdd, Nat.reduceMul, Nat.reduceEqDiff, Int.reduceToNat, Int.reduceNeg, Ilt_t, Ilt_f, Ile_t, Ile_f, Ieq_t, Ieq_f, Nlt_t, Nlt_f, Nle_t, Nle_f, Neq_t, Neq_f, or_true, true_or, or_false, false_or, and_true, true_and, and_false, false_and, ne_eq, or_self, and_self, decide_true, decide_false, Bool.false_eq_true]
    · rw [show z + 2 = z + 1 + 1 by omega]; simp (disch := omega) only [↓reduceIte, add_i0, cast_add1, cast_sub1, toNat120, i32_lit, i32_neg, i32_add, i32_sub, i32_mul, i32_nat, i32_le, i32_lt, i32_eq, inB_i, Int.toNat_natCast, mI_sI_eq, mI_sI_ne, mR_sR_eq, mR_sR_ne, mI_sR, mR_sI, mK_sI, mN_sI, mn_sI, mJ_sI, mK_sR, mN_sR, mn_sR, mJ_sR, mI_wI, mR_wI, mK_wI, mN_wI, mn_wI, mJ_wI, ↓bnd_of, ↓bndX_r, ↓bndX_l, ↓ap_nr, bnd_of, bndX_r, bndX_l, if_true, if_false, ite_true, ite_false, not_true_eq_false, not_false_eq_true, Nat.reduceAdd, Nat.reduceMul, Nat.reduceEqDiff, Int.reduceToNat, Int.reduceNeg, Ilt_t, Ilt_f, Ile_t, Ile_f, Ieq_t, Ieq_f, Nlt_t, Nlt_f, Nle_t, Nle_f, Neq_t, Neq_f, or_true, true_or, or_false, false_or, and_true, true_and, and_false, false_and, ne_eq, or_self, and_self, decide_true, decide_false, Bool.false_eq_true]
    · rw [show z + 3 = z + 1 + 1 + 1 by omega]; simp (disch := omega) only [↓reduceIte, add_i0, cast_add1, cast_sub1, toNat120, i32_lit, i32_neg, i32_add, i32_sub, i32_mul, i32_nat, i32_le, i32_lt, i32_eq, inB_i, Int.toNat_natCast, mI_sI_eq, mI_sI_ne, mR_sR_eq, mR_sR_ne, mI_sR, mR_sI, mK_sI, mN_sI, mn_sI, mJ_sI, mK_sR, mN_sR, mn_sR, mJ_sR, mI_wI, mR_wI, mK_wI, mN_wI, mn_wI, mJ_wI, ↓bnd_of, ↓bndX_r, ↓bndX_l, ↓ap_nr, bnd_of, bndX_r, bndX_l, if_true, if_false, ite_true, ite_false, not_true_eq_false, not_false_eq_true, Nat.reduceAdd, Nat.reduceMul, Nat.reduceEqDiff, Int.reduceToNat, Int.reduceNeg, Ilt_t, Ilt_f, Ile_t, Ile_f, Ieq_t, Ieq_f, Nlt_t, Nlt_f, Nle_t, Nle_f, Neq_t, Neq_f, or_true, true_or, or_false, false_or, and_true, true_and, and_false, false_and, ne_eq, or_self, and_self, decide_true, decide_false, Bool.false_eq_true]
theorem c_feed (hL : CLay M) (hT : TPc M t z) (a b c d e : Int32) : ∃ M', f_X11_feed 1 a b c d e M = some (if z + 20 ≤ 700 then i32 ((z + 20 : Nat) : Int) else i32 (-1), M') ∧ Chg fdC M M' ∧ TPc M' (if z + 20 ≤ 700 then feedT t z a b c d e else t) (if z + 20 ≤ 700 then z + 20 else z) := by
  obtain ⟨t1, t2, t3, t4⟩ := id hT
  have r0 : mR M 1 0 = 2 := by simp only [hL.o]
  have k1 : mK M 1 = 12 := by simp only [hL.o]
  have k2 : mK M 2 = 10 := by simp only [hL.o]
  by_cases h : z + 20 ≤ 700
  · simp only [h, if_true]
    obtain ⟨M1, e1, g1, p1, o1, q1⟩ := X9_append hL t1 (by omega) a
    have hL1 := hL.all g1
    obtain ⟨M2, e2, g2, p2, o2, q2⟩ := X9_append hL1 p1 (by omega) b
    have hL2 := hL1.all g2
    obtain ⟨M3, e3, g3, p3, o3, q3⟩ := X9_append hL2 p2 (by omega) c
    have hL3 := hL2.all g3
    obtain ⟨M4, e4, g4, p4, o4, q4⟩ := X9_append hL3 p3 (by omega) d
    have hL4 := hL3.all g4
    obtain ⟨M5, e5, g5, p5, o5, q5⟩ := X9_append hL4 p4 (by omega) e
    have hL5 := hL4.all g5
    refine ⟨M5, ?_, g1.tr (g2.tr (g3.tr (g4.tr g5))), ?_, fun i hi => ?_, by omega, fun i => ?_⟩
    · simp (disch := omega) only [↓reduceIte, add_i0, cast_add1, cast_sub1, toNat120, i32_lit, i32_neg, i32_add, i32_sub, i32_mul, i32_nat, i32_le, i32_lt, i32_eq, inB_i, Int.toNat_natCast, mI_sI_eq, mI_sI_ne, mR_sR_eq, mR_sR_ne, mI_sR, mR_sI, mK_sI, mN_sI, mn_sI, mJ_sI, mK_sR, mN_sR, mn_sR, mJ_sR, mI_wI, mR_wI, mK_wI, mN_wI, mn_wI, mJ_wI, ↓bnd_of, ↓bndX_r, ↓bndX_l, ↓ap_nr, bnd_of, bndX_r, bndX_l, if_true, if_false, ite_true, ite_false, not_true_eq_false, not_false_eq_true, Nat.reduceAdd, Nat.reduceMul, Nat.reduceEqDiff, Int.reduceToNat, Int.reduceNeg, Ilt_t, Ilt_f, Ile_t, Ile_f, Ieq_t, Ieq_f, Nlt_t, Nlt_f, Nle_t, Nle_f, Neq_t, Neq_f, or_true, true_or, or_false, false_or, and_true, true_and, and_false, false_and, ne_eq, or_self, and_self, decide_true, decide_false, Bool.false_eq_true, f_X11_feed, hL.o, t1, ↓bx e1, hL1.o, ↓bx e2, hL2.o, ↓bx e3, hL3.o, ↓bx e4, hL4.o, ↓bx e5, hL5.o, p5]
    · rw [p5]
    · unfold feedT
      by_cases c0 : z ≤ i ∧ i < z + 20
      · rw [if_pos c0]
        unfold wsel
        have hc : i < z + 4 ∨ (z + 4 ≤ i ∧ i < z + 8) ∨ (z + 8 ≤ i ∧ i < z + 12) ∨ (z + 12 ≤ i ∧ i < z + 16) ∨ z + 16 ≤ i := by omega
        rcases hc with hc | hc | hc | hc | hc
        · rw [if_pos (by omega), o5 i (by omega), o4 i (by omega), o3 i (by omega), o2 i (by omega)]
          have := q1 (i - z) (by omega)
          rw [show z + (i - z) = i by omega] at this
          rw [this, show (i - z) % 4 = i - z by omega]
        · rw [if_neg (by omega), if_pos (by omega), o5 i (by omega), o4 i (by omega), o3 i (by omega)]
          have := q2 (i - (z + 4)) (by omega)
          rw [show z + 4 + (i - (z + 4)) = i by omega] at this
          rw [this, show (i - z) % 4 = i - (z + 4) by omega]
        · rw [if_neg (by omega), if_neg (by omega), if_pos (by omega), o5 i (by omega), o4 i (by omega)]
          have := q3 (i - (z + 4 + 4)) (by omega)
          rw [show z + 4 + 4 + (i - (z + 4 + 4)) = i by omega] at this
          rw [this, show (i - z) % 4 = i - (z + 4 + 4) by omega]
        · rw [if_neg (by omega), if_neg (by omega), if_neg (by omega), if_pos (by omega), o5 i (by omega)]
          have := q4 (i - (z + 4 + 4 + 4)) (by omega)
          rw [show z + 4 + 4 + 4 + (i - (z + 4 + 4 + 4)) = i by omega] at this
          rw [this, show (i - z) % 4 = i - (z + 4 + 4 + 4) by omega]
        · rw [if_neg (by omega), if_neg (by omega), if_neg (by omega), if_neg (by omega)]
          have := q5 (i - (z + 4 + 4 + 4 + 4)) (by omega)
          rw [show z + 4 + 4 + 4 + 4 + (i - (z + 4 + 4 + 4 + 4)) = i by omega] at this
          rw [this, show (i - z) % 4 = i - (z + 4 + 4 + 4 + 4) by omega]
      · rw [if_neg c0, o5 i (by omega), o4 i (by omega), o3 i (by omega), o2 i (by omega), o1 i (by omega)]
        exact t2 i (by omega)
    · unfold feedT
      split
      · exact byteOf_b _ _
      · exact t4 i
  · simp only [h, if_false]
    refine ⟨M, ?_, Chg.rf _ M, hT⟩
    simp (disch := omega) only [↓reduceIte, add_i0, cast_add1, cast_sub1, toNat120, i32_lit, i32_neg, i32_add, i32_sub, i32_mul, i32_nat, i32_le, i32_lt, i32_eq, inB_i, Int.toNat_natCast, mI_sI_eq, mI_sI_ne, mR_sR_eq, mR_sR_ne, mI_sR, mR_sI, mK_sI, mN_sI, mn_sI, mJ_sI, mK_sR, mN_sR, mn_sR, mJ_sR, mI_wI, mR_wI, mK_wI, mN_wI, mn_wI, mJ_wI, ↓bnd_of, ↓bndX_r, ↓bndX_l, ↓ap_nr, bnd_of, bndX_r, bndX_l, if_true, if_false, ite_true, ite_false, not_true_eq_false, not_false_eq_true, Nat.reduceAdd, Nat.reduceMul, Nat.reduceEqDiff, Int.reduceToNat, Int.reduceNeg, Ilt_t, Ilt_f, Ile_t, Ile_f, Ieq_t, Ieq_f, Nlt_t, Nlt_f, Nle_t, Nle_f, Neq_t, Neq_f, or_true, true_or, or_false, false_or, and_true, true_and, and_false, false_and, ne_eq, or_self, and_self, decide_true, decide_false, Bool.false_eq_true, f_X11_feed, hL.o, t1]
theorem r_feed23 (hz : z + 20 ≤ 700) (a b c d e : Int32) : ∀ (k j m : Nat) (M : Mem), j + k = 20 → k < m → RLay M → mI M 134 5 = i32 ((z + j : Nat) : Int) → ∃ M', f_X12_feed_23 m 134 a b c d e (i32 j) M = some (i32 ((z + 20 : Nat) : Int), M') ∧ Chg fdR M M' ∧ mI M' 134 5 = i32 ((z + 20 : Nat) : Int) ∧ (∀ i, i < z + j → mI M' 137 i = mI M 137 i) ∧ ∀ i, z + j ≤ i → i < z + 20 → mI M' 137 i = i32 (byteOf (wsel a b c d e (i - z)) ((i - z) % 4)) := by
  intro k
  induction k with
  | zero =>
    intro j m M hj hm hL h5
    obtain ⟨m, rfl⟩ : ∃ q, m = q + 1 := ⟨m - 1, by omega⟩
    rw [show z + j = z + 20 by omega] at h5
    refine ⟨M, ?_, Chg.rf _ M, h5, fun _ _ => rfl, fun i h1 h2 => by omega⟩
    simp (disch := omega) only [↓reduceIte, add_i0, cast_add1, cast_sub1, toNat120, i32_lit, i32_neg, i32_add, i32_sub, i32_mul, i32_nat, i32_le, i32_lt, i32_eq, inB_i, Int.toNat_natCast, mI_sI_eq, mI_sI_ne, mR_sR_eq, mR_sR_ne, mI_sR, mR_sI, mK_sI, mN_sI, mn_sI, mJ_sI, mK_sR, mN_sR, mn_sR, mJ_sR, mI_wI, mR_wI, mK_wI, mN_wI, mn_wI, mJ_wI, ↓bnd_of, ↓bndX_r, ↓bndX_l, ↓ap_nr, bnd_of, bndX_r, bndX_l, if_true, if_false, ite_true, ite_false, not_true_eq_false, not_false_eq_true, Nat.reduceAdd, Nat.reduceMul, Nat.reduceEqDiff, Int.reduceToNat, Int.reduceNeg, Ilt_t, Ilt_f, Ile_t, Ile_f, Ieq_t, Ieq_f, Nlt_t, Nlt_f, Nle_t, Nle_f, Neq_t, Neq_f, or_true, true_or, or_false, false_or, and_true, true_and, and_false, false_and, ne_eq, or_self, and_self, decide_true, decide_false, Bool.false_eq_true, f_X12_feed_23, hL.o, h5]
  | succ k ih =>
    intro j m M hj hm hL h5
    obtain ⟨m, rfl⟩ : ∃ q, m = q + 1 := ⟨m - 1, by omega⟩
    have g : Chg fdR M (sI (sI M 137 (z + j) (i32 (byteOf (wsel a b c d e j) (j % 4)))) 134 5 (i32 ((z + (j + 1) : Nat) : Int))) := ((Chg.rf _ M).sI (by unfold fdR; omega)).sI (by unfold fdR; omega)
    obtain ⟨M', q1, q2, q3, q4, q5⟩ := ih (j + 1) m _ (by omega) (by omega) (hL.all g) mI_sI_eq
    refine ⟨M', ?_, g.tr q2, q3, fun i hi => ?_, fun i h1 h2 => ?_⟩
    · rw [← q1]
      have e76 : ∀ w : Int32, w = wsel a b c d e j → f_X12_feed_76 (f_X12_feed_23 m) 134 a b c d e (i32 j) w M = f_X12_feed_23 m 134 a b c d e (i32 ((j + 1 : Nat) : Int)) (sI (sI M 137 (z + j) (i32 (byteOf (wsel a b c d e j) (j % 4)))) 134 5 (i32 ((z + (j + 1) : Nat) : Int))) := by
        intro w hw
        have eb := byte_r w (j % 4)
        have e3 : i32 (24 - 8 * ((j : Int) - (j : Int) / 4 * 4)) = i32 ((24 - 8 * (j % 4) : Nat) : Int) := by congr 1; omega
        have e4 : i32 (((z + j : Nat) : Int) + 1) = i32 ((z + (j + 1) : Nat) : Int) := by congr 1
        subst hw
        unfold f_X12_feed_76
        rw [if_pos hL.k]
        have r3 : mR M 134 3 = 137 := by simp only [hL.o]
        have k3 : mK M 137 = 21 := by simp only [hL.o]
        have n3 : mN M 137 = 700 := by simp only [hL.o]
        rw [r3, if_pos k3, h5, n3, if_pos (by simp (disch := omega) only [↓reduceIte, add_i0, cast_add1, cast_sub1, toNat120, i32_lit, i32_neg, i32_add, i32_sub, i32_mul, i32_nat, i32_le, i32_lt, i32_eq, inB_i, Int.toNat_natCast, mI_sI_eq, mI_sI_ne, mR_sR_eq, mR_sR_ne, mI_sR, mR_sI, mK_sI, mN_sI, mn_sI, mJ_sI, mK_sR, mN_sR, mn_sR, mJ_sR, mI_wI, mR_wI, mK_wI, mN_wI, mn_wI, mJ_wI, ↓bnd_of, ↓bndX_r, ↓bndX_l, ↓ap_nr, bnd_of, bndX_r, bndX_l, if_true, if_false, ite_true, ite_false, not_true_eq_false, not_false_eq_true, Nat.reduceAdd, Nat.reduceMul, Nat.reduceEqDiff, Int.reduceToNat, Int.reduceNeg, Ilt_t, Ilt_f, Ile_t, Ile_f, Ieq_t, Ieq_f, Nlt_t, Nlt_f, Nle_t, Nle_f, Neq_t, Neq_f, or_true, true_or, or_false, false_or, and_true, true_and, and_false, false_and, ne_eq, or_self, and_self, decide_true, decide_false, Bool.false_eq_true]), ap_of, if_pos (by exact hL.k), ap_of, mI_sI_ne (by omega), h5, i32_nat (by omega) (by omega), Int.toNat_natCast]
        have e5 : ((24 : Int32) - ((8 : Int32) * (i32 (j : Int) - i32 (j : Int) / (4 : Int32) * (4 : Int32)))) = i32 ((24 - 8 * (j % 4) : Nat) : Int) := by
          rw [← e3]
          simp (disch := omega) only [↓reduceIte, add_i0, cast_add1, cast_sub1, toNat120, i32_lit, i32_neg, i32_add, i32_sub, i32_mul, i32_nat, i32_le, i32_lt, i32_eq, inB_i, Int.toNat_natCast, mI_sI_eq, mI_sI_ne, mR_sR_eq, mR_sR_ne, mI_sR, mR_sI, mK_sI, mN_sI, mn_sI, mJ_sI, mK_sR, mN_sR, mn_sR, mJ_sR, mI_wI, mR_wI, mK_wI, mN_wI, mn_wI, mJ_wI, ↓bnd_of, ↓bndX_r, ↓bndX_l, ↓ap_nr, bnd_of, bndX_r, bndX_l, if_true, if_false, ite_true, ite_false, not_true_eq_false, not_false_eq_true, Nat.reduceAdd, Nat.reduceMul, Nat.reduceEqDiff, Int.reduceToNat, Int.reduceNeg, Ilt_t, Ilt_f, Ile_t, Ile_f, Ieq_t, Ieq_f, Nlt_t, Nlt_f, Nle_t, Nle_f, Neq_t, Neq_f, or_true, true_or, or_false, false_or, and_true, true_and, and_false, false_and, ne_eq, or_self, and_self, decide_true, decide_false, Bool.false_eq_true, i32_div]
        have e6 : (i32 ((24 - 8 * (j % 4) : Nat) : Int) &&& (31 : Int32)) = (i32 ((24 - 8 * (j % 4) : Nat) : Int) &&& i32 31) := rfl
        have e7 : (255 : Int32) = i32 255 := rfl
        have e8 : i32 ((z + j : Nat) : Int) + (1 : Int32) = i32 ((z + (j + 1) : Nat) : Int) := by rw [k_add1]; rfl
        have e9 : i32 (j : Int) + 1 = i32 ((j + 1 : Nat) : Int) := k_add1 j
        rw [e5, e6, e7, eb, e8, e9]
      have hc : j < 4 ∨ (4 ≤ j ∧ j < 8) ∨ (8 ≤ j ∧ j < 12) ∨ (12 ≤ j ∧ j < 16) ∨ 16 ≤ j := by omega
      rcases hc with hc | hc | hc | hc | hc
      · rw [← e76 a (by unfold wsel; rw [if_pos (by omega)])]
        simp (disch := omega) only [↓reduceIte, add_i0, cast_add1, cast_sub1, toNat120, i32_lit, i32_neg, i32_add, i32_sub, i32_mul, i32_nat, i32_le, i32_lt, i32_eq, inB_i, Int.toNat_natCast, mI_sI_eq, mI_sI_ne, mR_sR_eq, mR_sR_ne, mI_sR, mR_sI, mK_sI, mN_sI, mn_sI, mJ_sI, mK_sR, mN_sR, mn_sR, mJ_sR, mI_wI, mR_wI, mK_wI, mN_wI, mn_wI, mJ_wI, ↓bnd_of, ↓bndX_r, ↓bndX_l, ↓ap_nr, bnd_of, bndX_r, bndX_l, if_true, if_false, ite_true, ite_false, not_true_eq_false, not_false_eq_true, Nat.reduceAdd, Nat.reduceMul, Nat.reduceEqDiff, Int.reduceToNat, Int.reduceNeg, Ilt_t, Ilt_f, Ile_t, Ile_f, Ieq_t, Ieq_f, Nlt_t, Nlt_f, Nle_t, Nle_f, Neq_t, Neq_f, or_true, true_or, or_false, false_or, and_true, true_and, and_false, false_and, ne_eq, or_self, and_self, decide_true, decide_false, Bool.false_eq_true, f_X12_feed_23]
      · rw [← e76 b (by unfold wsel; rw [if_neg (by omega), if_pos (by omega)])]
        simp (disch := omega) only [↓reduceIte, add_i0, cast_add1, cast_sub1, toNat120, i32_lit, i32_neg, i32_add, i32_sub, i32_mul, i32_nat, i32_le, i32_lt, i32_eq, inB_i, Int.toNat_natCast, mI_sI_eq, mI_sI_ne, mR_sR_eq, mR_sR_ne, mI_sR, mR_sI, mK_sI, mN_sI, mn_sI, mJ_sI, mK_sR, mN_sR, mn_sR, mJ_sR, mI_wI, mR_wI, mK_wI, mN_wI, mn_wI, mJ_wI, ↓bnd_of, ↓bndX_r, ↓bndX_l, ↓ap_nr, bnd_of, bndX_r, bndX_l, if_true, if_false, ite_true, ite_false, not_true_eq_false, not_false_eq_true, Nat.reduceAdd, Nat.reduceMul, Nat.reduceEqDiff, Int.reduceToNat, Int.reduceNeg, Ilt_t, Ilt_f, Ile_t, Ile_f, Ieq_t, Ieq_f, Nlt_t, Nlt_f, Nle_t, Nle_f, Neq_t, Neq_f, or_true, true_or, or_false, false_or, and_true, true_and, and_false, false_and, ne_eq, or_self, and_self, decide_true, decide_false, Bool.false_eq_true, f_X12_feed_23]
      · rw [← e76 c (by unfold wsel; rw [if_neg (by omega), if_neg (by omega), if_pos (by omega)])]
        simp (disch := omega) only [↓reduceIte, add_i0, cast_add1, cast_sub1, toNat120, i32_lit, i32_neg, i32_add, i32_sub, i32_mul, i32_nat, i32_le, i32_lt, i32_eq, inB_i, Int.toNat_natCast, mI_sI_eq, mI_sI_ne, mR_sR_eq, mR_sR_ne, mI_sR, mR_sI, mK_sI, mN_sI, mn_sI, mJ_sI, mK_sR, mN_sR, mn_sR, mJ_sR, mI_wI, mR_wI, mK_wI, mN_wI, mn_wI, mJ_wI, ↓bnd_of, ↓bndX_r, ↓bndX_l, ↓ap_nr, bnd_of, bndX_r, bndX_l, if_true, if_false, ite_true, ite_false, not_true_eq_false, not_false_eq_true, Nat.reduceAdd, Nat.reduceMul, Nat.reduceEqDiff, Int.reduceToNat, Int.reduceNeg, Ilt_t, Ilt_f, Ile_t, Ile_f, Ieq_t, Ieq_f, Nlt_t, Nlt_f, Nle_t, Nle_f, Neq_t, Neq_f, or_true, true_or, or_false, false_or, and_true, true_and, and_false, false_and, ne_eq, or_self, and_self, decide_true, decide_false, Bool.false_eq_true, f_X12_feed_23]
      · rw [← e76 d (by unfold wsel; rw [if_neg (by omega), if_neg (by omega), if_neg (by omega), if_pos (by omega)])]
        simp (disch := omega) only [↓reduceIte, add_i0, cast_add1, cast_sub1, toNat120, i32_lit, i32_neg, i32_add, i32_sub, i32_mul, i32_nat, i32_le, i32_lt, i32_eq, inB_i, Int.toNat_natCast, mI_sI_eq, mI_sI_ne, mR_sR_eq, mR_sR_ne, mI_sR, mR_sI, mK_sI, mN_sI, mn_sI, mJ_sI, mK_sR, mN_sR, mn_sR, mJ_sR, mI_wI, mR_wI, mK_wI, mN_wI, mn_wI, mJ_wI, ↓bnd_of, ↓bndX_r, ↓bndX_l, ↓ap_nr, bnd_of, bndX_r, bndX_l, if_true, if_false, ite_true, ite_false, not_true_eq_false, not_false_eq_true, Nat.reduceAdd, Nat.reduceMul, Nat.reduceEqDiff, Int.reduceToNat, Int.reduceNeg, Ilt_t, Ilt_f, Ile_t, Ile_f, Ieq_t, Ieq_f, Nlt_t, Nlt_f, Nle_t, Nle_f, Neq_t, Neq_f, or_true, true_or, or_false, false_or, and_true, true_and, and_false, false_and, ne_eq, or_self, and_self, decide_true, decide_false, Bool.false_eq_true, f_X12_feed_23]
      · rw [← e76 e (by unfold wsel; rw [if_neg (by omega), if_neg (by omega), if_neg (by omega), if_neg (by omega)])]
        simp (disch := omega) only [↓reduceIte, add_i0, cast_add1, cast_sub1, toNat120, i32_lit, i32_neg, i32_add, i32_sub, i32_mul, i32_nat, i32_le, i32_lt, i32_eq, inB_i, Int.toNat_natCast, mI_sI_eq, mI_sI_ne, mR_sR_eq, mR_sR_ne, mI_sR, mR_sI, mK_sI, mN_sI, mn_sI, mJ_sI, mK_sR, mN_sR, mn_sR, mJ_sR, mI_wI, mR_wI, mK_wI, mN_wI, mn_wI, mJ_wI, ↓bnd_of, ↓bndX_r, ↓bndX_l, ↓ap_nr, bnd_of, bndX_r, bndX_l, if_true, if_false, ite_true, ite_false, not_true_eq_false, not_false_eq_true, Nat.reduceAdd, Nat.reduceMul, Nat.reduceEqDiff, Int.reduceToNat, Int.reduceNeg, Ilt_t, Ilt_f, Ile_t, Ile_f, Ieq_t, Ieq_f, Nlt_t, Nlt_f, Nle_t, Nle_f, Neq_t, Neq_f, or_true, true_or, or_false, false_or, and_true, true_and, and_false, false_and, ne_eq, or_self, and_self, decide_true, decide_false, Bool.false_eq_true, f_X12_feed_23]
    · rw [q4 i (by omega)]
      simp (disch := omega) only [↓reduceIte, add_i0, cast_add1, cast_sub1, toNat120, i32_lit, i32_neg, i32_add, i32_sub, i32_mul, i32_nat, i32_le, i32_lt, i32_eq, inB_i, Int.toNat_natCast, mI_sI_eq, mI_sI_ne, mR_sR_eq, mR_sR_ne, mI_sR, mR_sI, mK_sI, mN_sI, mn_sI, mJ_sI, mK_sR, mN_sR, mn_sR, mJ_sR, mI_wI, mR_wI, mK_wI, mN_wI, mn_wI, mJ_wI, ↓bnd_of, ↓bndX_r, ↓bndX_l, ↓ap_nr, bnd_of, bndX_r, bndX_l, if_true, if_false, ite_true, ite_false, not_true_eq_false, not_false_eq_true, Nat.reduceAdd, Nat.reduceMul, Nat.reduceEqDiff, Int.reduceToNat, Int.reduceNeg, Ilt_t, Ilt_f, Ile_t, Ile_f, Ieq_t, Ieq_f, Nlt_t, Nlt_f, Nle_t, Nle_f, Neq_t, Neq_f, or_true, true_or, or_false, false_or, and_true, true_and, and_false, false_and, ne_eq, or_self, and_self, decide_true, decide_false, Bool.false_eq_true]
    · by_cases c0 : i = z + j
      · subst c0
        rw [q4 _ (by omega), show z + j - z = j by omega]
        simp (disch := omega) only [↓reduceIte, add_i0, cast_add1, cast_sub1, toNat120, i32_lit, i32_neg, i32_add, i32_sub, i32_mul, i32_nat, i32_le, i32_lt, i32_eq, inB_i, Int.toNat_natCast, mI_sI_eq, mI_sI_ne, mR_sR_eq, mR_sR_ne, mI_sR, mR_sI, mK_sI, mN_sI, mn_sI, mJ_sI, mK_sR, mN_sR, mn_sR, mJ_sR, mI_wI, mR_wI, mK_wI, mN_wI, mn_wI, mJ_wI, ↓bnd_of, ↓bndX_r, ↓bndX_l, ↓ap_nr, bnd_of, bndX_r, bndX_l, if_true, if_false, ite_true, ite_false, not_true_eq_false, not_false_eq_true, Nat.reduceAdd, Nat.reduceMul, Nat.reduceEqDiff, Int.reduceToNat, Int.reduceNeg, Ilt_t, Ilt_f, Ile_t, Ile_f, Ieq_t, Ieq_f, Nlt_t, Nlt_f, Nle_t, Nle_f, Neq_t, Neq_f, or_true, true_or, or_false, false_or, and_true, true_and, and_false, false_and, ne_eq, or_self, and_self, decide_true, decide_false, Bool.false_eq_true]
      · exact q5 i (by omega) h2
theorem r_feed (hL : RLay M) (hT : TPr M t z) (a b c d e : Int32) : ∃ M', f_X12_feed 134 a b c d e M = some (if z + 20 ≤ 700 then i32 ((z + 20 : Nat) : Int) else i32 (-1), M') ∧ Chg (fun a j => fdR a j ∨ (a = 134 ∧ j = 2)) M M' ∧ TPr M' (if z + 20 ≤ 700 then feedT t z a b c d e else t) (if z + 20 ≤ 700 then z + 20 else z) := by
  obtain ⟨t1, t2, t3, t4⟩ := id hT
  have g0 : Chg (fun a j => fdR a j ∨ (a = 134 ∧ j = 2)) M (sI M 134 2 (0 : Int32)) := (Chg.rf _ M).sI (Or.inr ⟨rfl, rfl⟩)
  have hL0 := hL.all g0
  have t10 : mI (sI M 134 2 (0 : Int32)) 134 5 = i32 z := by simp (disch := omega) only [↓reduceIte, add_i0, cast_add1, cast_sub1, toNat120, i32_lit, i32_neg, i32_add, i32_sub, i32_mul, i32_nat, i32_le, i32_lt, i32_eq, inB_i, Int.toNat_natCast, mI_sI_eq, mI_sI_ne, mR_sR_eq, mR_sR_ne, mI_sR, mR_sI, mK_sI, mN_sI, mn_sI, mJ_sI, mK_sR, mN_sR, mn_sR, mJ_sR, mI_wI, mR_wI, mK_wI, mN_wI, mn_wI, mJ_wI, ↓bnd_of, ↓bndX_r, ↓bndX_l, ↓ap_nr, bnd_of, bndX_r, bndX_l, if_true, if_false, ite_true, ite_false, not_true_eq_false, not_false_eq_true, Nat.reduceAdd, Nat.reduceMul, Nat.reduceEqDiff, Int.reduceToNat, Int.reduceNeg, Ilt_t, Ilt_f, Ile_t, Ile_f, Ieq_t, Ieq_f, Nlt_t, Nlt_f, Nle_t, Nle_f, Neq_t, Neq_f, or_true, true_or, or_false, false_or, and_true, true_and, and_false, false_and, ne_eq, or_self, and_self, decide_true, decide_false, Bool.false_eq_true, t1]
  by_cases h : z + 20 ≤ 700
  · simp only [h, if_true]
    obtain ⟨M', q1, q2, q3, q4, q5⟩ := r_feed23 h a b c d e 20 0 FUEL _ (by omega) (by unfold FUEL; omega) hL0 t10
    refine ⟨M', ?_, g0.tr (q2.mono (fun a j q => Or.inl q)), q3, fun i hi => ?_, by omega, fun i => ?_⟩
    · rw [← q1]
      simp (disch := omega) only [↓reduceIte, add_i0, cast_add1, cast_sub1, toNat120, i32_lit, i32_neg, i32_add, i32_sub, i32_mul, i32_nat, i32_le, i32_lt, i32_eq, inB_i, Int.toNat_natCast, mI_sI_eq, mI_sI_ne, mR_sR_eq, mR_sR_ne, mI_sR, mR_sI, mK_sI, mN_sI, mn_sI, mJ_sI, mK_sR, mN_sR, mn_sR, mJ_sR, mI_wI, mR_wI, mK_wI, mN_wI, mn_wI, mJ_wI, ↓bnd_of, ↓bndX_r, ↓bndX_l, ↓ap_nr, bnd_of, bndX_r, bndX_l, if_true, if_false, ite_true, ite_false, not_true_eq_false, not_false_eq_true, Nat.reduceAdd, Nat.reduceMul, Nat.reduceEqDiff, Int.reduceToNat, Int.reduceNeg, Ilt_t, Ilt_f, Ile_t, Ile_f, Ieq_t, Ieq_f, Nlt_t, Nlt_f, Nle_t, Nle_f, Neq_t, Neq_f, or_true, true_or, or_false, false_or, and_true, true_and, and_false, false_and, ne_eq, or_self, and_self, decide_true, decide_false, Bool.false_eq_true, f_X12_feed, hL.o, t1]
      first | done | rfl
    · unfold feedT
      by_cases c0 : z ≤ i ∧ i < z + 20
      · rw [if_pos c0]
        exact q5 i (by omega) c0.2
      · rw [if_neg c0, q4 i (by omega)]
        have := t2 i (by omega)
        simp (disch := omega) only [↓reduceIte, add_i0, cast_add1, cast_sub1, toNat120, i32_lit, i32_neg, i32_add, i32_sub, i32_mul, i32_nat, i32_le, i32_lt, i32_eq, inB_i, Int.toNat_natCast, mI_sI_eq, mI_sI_ne, mR_sR_eq, mR_sR_ne, mI_sR, mR_sI, mK_sI, mN_sI, mn_sI, mJ_sI, mK_sR, mN_sR, mn_sR, mJ_sR, mI_wI, mR_wI, mK_wI, mN_wI, mn_wI, mJ_wI, ↓bnd_of, ↓bndX_r, ↓bndX_l, ↓ap_nr, bnd_of, bndX_r, bndX_l, if_true, if_false, ite_true, ite_false, not_true_eq_false, not_false_eq_true, Nat.reduceAdd, Nat.reduceMul, Nat.reduceEqDiff, Int.reduceToNat, Int.reduceNeg, Ilt_t, Ilt_f, Ile_t, Ile_f, Ieq_t, Ieq_f, Nlt_t, Nlt_f, Nle_t, Nle_f, Neq_t, Neq_f, or_true, true_or, or_false, false_or, and_true, true_and, and_false, false_and, ne_eq, or_self, and_self, decide_true, decide_false, Bool.false_eq_true, this]
    · unfold feedT
      split
      · exact byteOf_b _ _
      · exact t4 i
  · simp only [h, if_false]
    refine ⟨_, ?_, g0, t10, fun i hi => ?_, t3, t4⟩
    · simp (disch := omega) only [↓reduceIte, add_i0, cast_add1, cast_sub1, toNat120, i32_lit, i32_neg, i32_add, i32_sub, i32_mul, i32_nat, i32_le, i32_lt, i32_eq, inB_i, Int.toNat_natCast, mI_sI_eq, mI_sI_ne, mR_sR_eq, mR_sR_ne, mI_sR, mR_sI, mK_sI, mN_sI, mn_sI, mJ_sI, mK_sR, mN_sR, mn_sR, mJ_sR, mI_wI, mR_wI, mK_wI, mN_wI, mn_wI, mJ_wI, ↓bnd_of, ↓bndX_r, ↓bndX_l, ↓ap_nr, bnd_of, bndX_r, bndX_l, if_true, if_false, ite_true, ite_false, not_true_eq_false, not_false_eq_true, Nat.reduceAdd, Nat.reduceMul, Nat.reduceEqDiff, Int.reduceToNat, Int.reduceNeg, Ilt_t, Ilt_f, Ile_t, Ile_f, Ieq_t, Ieq_f, Nlt_t, Nlt_f, Nle_t, Nle_f, Neq_t, Neq_f, or_true, true_or, or_false, false_or, and_true, true_and, and_false, false_and, ne_eq, or_self, and_self, decide_true, decide_false, Bool.false_eq_true, f_X12_feed, hL.o, t1]
      first | done | rfl
    · have := t2 i hi
      simp (disch := omega) only [↓reduceIte, add_i0, cast_add1, cast_sub1, toNat120, i32_lit, i32_neg, i32_add, i32_sub, i32_mul, i32_nat, i32_le, i32_lt, i32_eq, inB_i, Int.toNat_natCast, mI_sI_eq, mI_sI_ne, mR_sR_eq, mR_sR_ne, mI_sR, mR_sI, mK_sI, mN_sI, mn_sI, mJ_sI, mK_sR, mN_sR, mn_sR, mJ_sR, mI_wI, mR_wI, mK_wI, mN_wI, mn_wI, mJ_wI, ↓bnd_of, ↓bndX_r, ↓bndX_l, ↓ap_nr, bnd_of, bndX_r, bndX_l, if_true, if_false, ite_true, ite_false, not_true_eq_false, not_false_eq_true, Nat.reduceAdd, Nat.reduceMul, Nat.reduceEqDiff, Int.reduceToNat, Int.reduceNeg, Ilt_t, Ilt_f, Ile_t, Ile_f, Ieq_t, Ieq_f, Nlt_t, Nlt_f, Nle_t, Nle_f, Neq_t, Neq_f, or_true, true_or, or_false, false_or, and_true, true_and, and_false, false_and, ne_eq, or_self, and_self, decide_true, decide_false, Bool.false_eq_true, this]
end
