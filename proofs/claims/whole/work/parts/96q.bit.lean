/-! an entry in one number: packed, unpacked; drop in the reference -/
theorem bt_or (x y : Int32) (i : Nat) : bt (x ||| y) i = (bt x i || bt y i) := by
  unfold bt
  rw [Int32.toBitVec_or, BitVec.getLsbD_or]
theorem or_256 (v : Nat) {y : Nat} (hy : y < 256) : i32 ((256 * v : Nat) : Int) ||| i32 (y : Int) = i32 ((256 * v + y : Nat) : Int) := by
  have e : 256 * v + y = 256 * v ||| y := Nat.two_pow_add_eq_or_of_lt (i := 8) hy v
  apply bt_ext
  intro i hi
  rw [bt_or, bt_nat (by omega) hi, bt_nat (by omega) hi, bt_nat (by omega) hi, Int.toNat_natCast, Int.toNat_natCast, Int.toNat_natCast, e, Nat.testBit_or]
theorem or_16 (v : Nat) {y : Nat} (hy : y < 16) : i32 ((16 * v : Nat) : Int) ||| i32 (y : Int) = i32 ((16 * v + y : Nat) : Int) := by
  have e : 16 * v + y = 16 * v ||| y := Nat.two_pow_add_eq_or_of_lt (i := 4) hy v
  apply bt_ext
  intro i hi
  rw [bt_or, bt_nat (by omega) hi, bt_nat (by omega) hi, bt_nat (by omega) hi, Int.toNat_natCast, Int.toNat_natCast, Int.toNat_natCast, e, Nat.testBit_or]
theorem bt_sl8 (x : Int32) {i : Nat} (hi : i < 32) : bt (x <<< ((8 : Int32) &&& 31)) i = (decide (8 ≤ i) && bt x (i - 8)) := by
  unfold bt
  have e : (((8 : Int32) &&& 31).toBitVec.smod 32) = 8#32 := by decide
  rw [Int32.toBitVec_shiftLeft, e, BitVec.shiftLeft_eq', BitVec.getLsbD_shiftLeft]
  have e2 : (8#32).toNat = 8 := rfl
  rw [e2]
  by_cases c : 8 ≤ i
  · simp [hi, c, show ¬ (i < 8) by omega]
  · simp [hi, c, show i < 8 by omega]
theorem bt_sl4 (x : Int32) {i : Nat} (hi : i < 32) : bt (x <<< ((4 : Int32) &&& 31)) i = (decide (4 ≤ i) && bt x (i - 4)) := by
  unfold bt
  have e : (((4 : Int32) &&& 31).toBitVec.smod 32) = 4#32 := by decide
  rw [Int32.toBitVec_shiftLeft, e, BitVec.shiftLeft_eq', BitVec.getLsbD_shiftLeft]
  have e2 : (4#32).toNat = 4 := rfl
  rw [e2]
  by_cases c : 4 ≤ i
  · simp [hi, c, show ¬ (i < 4) by omega]
  · simp [hi, c, show i < 4 by omega]
theorem sl8 (v : Nat) : i32 (v : Int) <<< ((8 : Int32) &&& 31) = i32 ((256 * v : Nat) : Int) := by
  apply bt_ext
  intro i hi
  have e : (256 * v).testBit i = (decide (i ≥ 8) && v.testBit (i - 8)) := Nat.testBit_two_pow_mul (i := 8)
  rw [bt_sl8 _ hi, bt_nat (by omega) (by omega), bt_nat (by omega) hi, Int.toNat_natCast, Int.toNat_natCast, e]
theorem sl4 (v : Nat) : i32 (v : Int) <<< ((4 : Int32) &&& 31) = i32 ((16 * v : Nat) : Int) := by
  apply bt_ext
  intro i hi
  have e : (16 * v).testBit i = (decide (i ≥ 4) && v.testBit (i - 4)) := Nat.testBit_two_pow_mul (i := 4)
  rw [bt_sl4 _ hi, bt_nat (by omega) (by omega), bt_nat (by omega) hi, Int.toNat_natCast, Int.toNat_natCast, e]
theorem pk_bits {v r d : Nat} (hr : r < 16) (hd : d < 16) : (i32 (v : Int) <<< ((8 : Int32) &&& 31)) ||| (i32 (r : Int) <<< ((4 : Int32) &&& 31)) ||| i32 (d : Int) = i32 ((256 * v + 16 * r + d : Nat) : Int) := by
  rw [sl8, sl4, Int32.or_assoc, or_16 r hd, or_256 v (by omega), show 256 * v + (16 * r + d) = 256 * v + 16 * r + d by omega]
theorem bt_sr (x : Int32) {s i : Nat} (hs : s < 32) (hi : i < 32) : bt (x >>> (i32 s &&& i32 31)) i = if s + i < 32 then bt x (s + i) else bt x 31 := by
  unfold bt
  rw [Int32.toBitVec_shiftRight]
  have e2 : ((i32 (s : Int) &&& i32 31).toBitVec.smod 32).toNat = s := by
    have : (i32 (s : Int) &&& i32 31).toBitVec = BitVec.ofNat 32 s := by
      apply BitVec.eq_of_toNat_eq
      rw [Int32.toBitVec_and, BitVec.toNat_and]
      show (BitVec.ofInt 32 (s : Int)).toNat &&& 31 = _
      rw [BitVec.ofInt_natCast, BitVec.toNat_ofNat, Nat.mod_eq_of_lt (by omega), nat31 hs]
    rw [this]
    have : ∀ i : Fin 32, ((BitVec.ofNat 32 i.val).smod 32).toNat = i.val := by decide
    exact this ⟨s, hs⟩
  rw [BitVec.sshiftRight_eq', e2, BitVec.getLsbD_sshiftRight, BitVec.msb_eq_getLsbD_last]
  simp [hi]
theorem sr_nat {n s : Nat} (hs : s < 32) (hn : n < 2147483648) : i32 (n : Int) >>> (i32 s &&& i32 31) = i32 ((n / 2 ^ s : Nat) : Int) := by
  apply bt_ext
  intro i hi
  rw [bt_sr _ hs hi, bt_nat (a := ((n / 2 ^ s : Nat) : Int)) (Int.natCast_nonneg _) hi, Int.toNat_natCast, Nat.testBit_div_two_pow]
  by_cases c : s + i < 32
  · rw [if_pos c, bt_nat (by omega) c, Int.toNat_natCast, Nat.add_comm]
  · rw [if_neg c, bt_nat (by omega) (by omega), Int.toNat_natCast]
    have h1 : n.testBit 31 = false := Nat.testBit_lt_two_pow hn
    have h2 : n < 2 ^ (i + s) := Nat.lt_of_lt_of_le (show n < 2 ^ 31 from hn) (Nat.pow_le_pow_right (by omega) (by omega))
    rw [h1, Nat.testBit_lt_two_pow h2]
theorem and15 (n : Nat) : i32 (n : Int) &&& (15 : Int32) = i32 ((n % 16 : Nat) : Int) := by
  apply bt_ext
  intro i hi
  have e : (n % 16).testBit i = (decide (i < 4) && n.testBit i) := Nat.testBit_mod_two_pow n 4 i
  have e15 : bt (15 : Int32) i = decide (i < 4) := bt_low (m := 4) (by omega) hi
  rw [bt_and, e15, bt_nat (by omega) hi, bt_nat (by omega) hi, Int.toNat_natCast, Int.toNat_natCast, e, Bool.and_comm]
theorem upk_bits {v r d : Nat} (hv : v < 1000) (hr : r < 16) (hd : d < 16) : i32 ((256 * v + 16 * r + d : Nat) : Int) >>> ((8 : Int32) &&& 31) = i32 (v : Int) ∧ (i32 ((256 * v + 16 * r + d : Nat) : Int) >>> ((4 : Int32) &&& 31)) &&& (15 : Int32) = i32 (r : Int) ∧ i32 ((256 * v + 16 * r + d : Nat) : Int) &&& (15 : Int32) = i32 (d : Int) := by
  have h8 : i32 ((256 * v + 16 * r + d : Nat) : Int) >>> ((8 : Int32) &&& 31) = i32 (((256 * v + 16 * r + d) / 2 ^ 8 : Nat) : Int) := sr_nat (s := 8) (by omega) (by omega)
  have h4 : i32 ((256 * v + 16 * r + d : Nat) : Int) >>> ((4 : Int32) &&& 31) = i32 (((256 * v + 16 * r + d) / 2 ^ 4 : Nat) : Int) := sr_nat (s := 4) (by omega) (by omega)
  refine ⟨?_, ?_, ?_⟩
  · rw [h8, show (256 * v + 16 * r + d) / 2 ^ 8 = v by omega]
  · rw [h4, and15, show (256 * v + 16 * r + d) / 2 ^ 4 % 16 = r by omega]
  · rw [and15, show (256 * v + 16 * r + d) % 16 = d by omega]
section
variable {M : Mem} {S : Sc} {A : St} {fu : Nat → Int}
theorem X2_packed (hc : ColLay M 21) (hA : CC M 21 fu A) {l j : Nat} (hl : l < 8) (hj : j < A.sz l) : f_X2_packed (21 + 4 * l) (i32 j) M = some (i32 (pkI A l j), M) := by
  have hz := hA.1.2.2.2.1 l
  have hca := hc.at21 hl
  have bv := St.b hA.1 l j
  have nj := nat_i (k := j) (by omega)
  have inj : inB (i32 (j : Int)) 120 = true := by clear hca; simp (disch := omega) only [↓reduceIte, add_i0, cast_add1, cast_sub1, toNat120, i32_lit, i32_neg, i32_add, i32_sub, i32_mul, i32_nat, i32_le, i32_lt, i32_eq, inB_i, Int.toNat_natCast, mI_sI_eq, mI_sI_ne, mR_sR_eq, mR_sR_ne, mI_sR, mR_sI, mK_sI, mN_sI, mn_sI, mJ_sI, mK_sR, mN_sR, mn_sR, mJ_sR, mI_wI, mR_wI, mK_wI, mN_wI, mn_wI, mJ_wI, ↓bnd_of, ↓bndX_r, ↓bndX_l, ↓ap_nr, bnd_of, bndX_r, bndX_l, if_true, if_false, ite_true, ite_false, not_true_eq_false, not_false_eq_true, Nat.reduceAdd, Nat.reduceMul, Nat.reduceEqDiff, Int.reduceToNat, Int.reduceNeg, Ilt_t, Ilt_f, Ile_t, Ile_f, Ieq_t, Ieq_f, Nlt_t, Nlt_f, Nle_t, Nle_f, Neq_t, Neq_f, or_true, true_or, or_false, false_or, and_true, true_and, and_false, false_and, ne_eq, or_self, and_self, decide_true, decide_false, Bool.false_eq_true]
  obtain ⟨v, hv⟩ : ∃ k : Nat, A.vl l j = k := ⟨(A.vl l j).toNat, by omega⟩
  obtain ⟨r, hr⟩ : ∃ k : Nat, A.rp l j = k := ⟨(A.rp l j).toNat, by omega⟩
  obtain ⟨d, hd⟩ : ∃ k : Nat, A.df l j = k := ⟨(A.df l j).toNat, by omega⟩
  unfold f_X2_packed
  rw [if_pos hca.o.1, hca.o.2.2.2.1, if_pos hca.o.2.2.2.2.2.2.1, hca.o.2.2.2.2.2.2.2.2.2.1, if_pos inj, hca.o.2.1, if_pos hca.o.2.2.2.2.1, hca.o.2.2.2.2.2.2.2.1, if_pos inj, hca.o.2.2.1, if_pos hca.o.2.2.2.2.2.1, hca.o.2.2.2.2.2.2.2.2.1, if_pos inj, nj, hA.2.2.1 l j hl hj, hA.2.2.2.1 l j hl hj, hA.2.2.2.2.1 l j hl hj, hv, hr, hd, pk_bits (by omega) (by omega)]
  unfold pkI
  rw [hv, hr, hd, show ((256 * v + 16 * r + d : Nat) : Int) = 256 * (v : Int) + 16 * (r : Int) + (d : Int) by omega]
def a_drop (S : Sc) (A : St) : Int32 := if A.rc = 0 ∨ (chk S A).1 ≠ 0 then i32 (-1) else i32 ((A.rc - 1 : Nat) : Int)
end
