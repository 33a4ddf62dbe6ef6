/-! NEXT -/
/-- a set of leaves, as bits -/
def isSetP (S : Sc) (z : Int) : Prop := 0 < z ∧ z < 2 ^ S.nl
theorem shl1 {k : Nat} (h : k ≤ 8) : i32 1 <<< (i32 k &&& i32 31) = i32 (2 ^ k) := by
  have hc : k = 0 ∨ k = 1 ∨ k = 2 ∨ k = 3 ∨ k = 4 ∨ k = 5 ∨ k = 6 ∨ k = 7 ∨ k = 8 := by omega
  rcases hc with rfl | rfl | rfl | rfl | rfl | rfl | rfl | rfl | rfl <;> decide +kernel
theorem pow8 {k : Nat} (h : k ≤ 8) : 1 ≤ (2 : Int) ^ k ∧ (2 : Int) ^ k ≤ 256 := by
  have hc : k = 0 ∨ k = 1 ∨ k = 2 ∨ k = 3 ∨ k = 4 ∨ k = 5 ∨ k = 6 ∨ k = 7 ∨ k = 8 := by omega
  rcases hc with rfl | rfl | rfl | rfl | rfl | rfl | rfl | rfl | rfl <;> decide
theorem ushr0 {z : Int} {k : Nat} (hk : k ≤ 8) (h1 : 0 ≤ z) (h2 : z ≤ 2147483647) : (((i32 z).toUInt32 >>> ((i32 k).toUInt32 &&& Int32.toUInt32 (i32 31))).toInt32 = i32 0) = (z < 2 ^ k) := by
  have e : ((i32 (k : Int)).toUInt32 &&& Int32.toUInt32 (i32 31)).toNat = k := by
    rw [UInt32.toNat_and]
    show (BitVec.ofInt 32 (k : Int)).toNat &&& 31 = k
    rw [BitVec.ofInt_natCast, BitVec.toNat_ofNat, Nat.mod_eq_of_lt (by omega), nat31 (by omega)]
  obtain ⟨a, rfl⟩ : ∃ a : Nat, z = a := ⟨z.toNat, by omega⟩
  have e2 : ((i32 (a : Int)).toUInt32 >>> ((i32 (k : Int)).toUInt32 &&& Int32.toUInt32 (i32 31))).toNat = a / 2 ^ k := by
    rw [UInt32.toNat_shiftRight, e, Nat.mod_eq_of_lt (by omega), Nat.shiftRight_eq_div_pow]
    congr 1
    show (BitVec.ofInt 32 (a : Int)).toNat = a
    rw [BitVec.ofInt_natCast, BitVec.toNat_ofNat, Nat.mod_eq_of_lt (by omega)]
  apply propext
  have e3 : ((a : Int) < 2 ^ k) ↔ a / 2 ^ k = 0 := by
    rw [Nat.div_eq_zero_iff]
    have : ((2 : Int) ^ k) = ((2 ^ k : Nat) : Int) := by simp
    rw [this]
    have : 0 < 2 ^ k := Nat.pow_pos (by omega)
    omega
  rw [e3, ← e2]
  constructor
  · intro h
    have : ((i32 (a : Int)).toUInt32 >>> ((i32 (k : Int)).toUInt32 &&& Int32.toUInt32 (i32 31))) = 0 := by
      have := congrArg Int32.toUInt32 h
      simpa using (show _ = (0 : UInt32) from this)
    rw [this]
    rfl
  · intro h
    have : ((i32 (a : Int)).toUInt32 >>> ((i32 (k : Int)).toUInt32 &&& Int32.toUInt32 (i32 31))) = 0 := UInt32.toNat_inj.mp h
    rw [this]
    rfl
theorem bt_m2 {l i : Nat} (hl : l < 32) (hi : i < 32) : bt (i32 (-2) <<< (i32 l &&& i32 31)) i = decide (l < i) := by
  have : ∀ (l i : Fin 32), bt (i32 (-2) <<< (i32 (l.val : Int) &&& i32 31)) i.val = decide (l.val < i.val) := by decide +kernel
  exact this ⟨l, hl⟩ ⟨i, hi⟩
/-- no leaves beyond -/
theorem set_hi {S : Sc} (hS : S.ok) {z : Int} (h : isSetP S z) {i : Nat} (h1 : S.nl ≤ i) (h2 : i < 32) : bt (i32 z) i = false := by
  have h0 := h.1
  have h3 := h.2
  rw [bt_nat (by omega) h2]
  apply Nat.testBit_lt_two_pow
  have e : (2 : Nat) ^ S.nl ≤ 2 ^ i := Nat.pow_le_pow_right (by omega) h1
  have e2 : ((2 : Int) ^ S.nl) = ((2 ^ S.nl : Nat) : Int) := by simp
  rw [e2] at h3
  omega
/-- the next leaf of the set behind l; the level of both -/
def Sc.beh (S : Sc) (set : Int) (l : Nat) : Int := lowF (bt (i32 set)) (S.nl - (l + 1)) (l + 1)
def Sc.levB (S : Sc) (set : Int) (l : Nat) : Int := if S.beh set l = -1 then 0 else S.lev l (S.beh set l).toNat
def Sc.nxt (S : Sc) (set : Int) (l : Nat) (x : Int) : Int := if x ≤ S.levB set l then S.beh set l else lowF (fun o => bt (i32 set) o && S.ins (S.fo o) (S.many l x).toNat) S.nl 0
theorem lowF_skip {p : Nat → Bool} : ∀ (a k j : Nat), (∀ i, j ≤ i → i < j + a → p i = false) → lowF p (a + k) j = lowF p k (j + a) := by
  intro a
  induction a with
  | zero => intro k j _; simp
  | succ a ih =>
    intro k j h
    rw [show a + 1 + k = (a + k) + 1 by omega]
    conv => lhs; unfold lowF
    rw [h j (by omega) (by omega), ih k (j + 1) (fun i h1 h2 => h i (by omega) (by omega)), show j + 1 + a = j + (a + 1) by omega]
    rfl
theorem Sc.beh_b {S : Sc} (set : Int) (l : Nat) : S.beh set l = -1 ∨ ((l : Int) < S.beh set l ∧ S.beh set l < S.nl ∧ bt (i32 set) (S.beh set l).toNat = true) := by
  rcases lowF_ge (bt (i32 set)) (S.nl - (l + 1)) (l + 1) with h | h
  · left; exact h.1
  · right
    have h1 := h.1
    have h2 := h.2.1
    unfold Sc.beh
    refine ⟨by omega, by omega, h.2.2.1⟩
theorem Sc.levB_b {S : Sc} (hS : S.ok) (set : Int) (l : Nat) : 0 ≤ S.levB set l ∧ S.levB set l ≤ 9 := by
  unfold Sc.levB
  have := Sc.lev_b hS l (S.beh set l).toNat
  split <;> omega
theorem upF_ins_any (gr : Nat → Int) (hg : ∀ f : Nat, -1 ≤ gr f ∧ gr f < f) : True := trivial
/-- the leaf itself stands in what is around it -/
theorem Sc.ins_many {S : Sc} {l : Nat} {x : Int} (h : S.many l x ≠ -1) : S.ins (S.fo l) (S.many l x).toNat = true := Sc.up_ins _ h
theorem Sc.nxt_in {S : Sc} (hW : S.wf) {set : Int} {l : Nat} (hl : l < S.nl) (hb : bt (i32 set) l = true) {x : Int} (h1 : 1 ≤ x) (h2 : x ≤ S.sr (S.fo l)) : 0 ≤ lowF (fun o => bt (i32 set) o && S.ins (S.fo o) (S.many l x).toNat) S.nl 0 ∧ lowF (fun o => bt (i32 set) o && S.ins (S.fo o) (S.many l x).toNat) S.nl 0 < S.nl := by
  have hm := Sc.many_ok hW hl h1 h2
  have hi := Sc.ins_many hm
  rcases lowF_ge (fun o => bt (i32 set) o && S.ins (S.fo o) (S.many l x).toNat) S.nl 0 with h | h
  · have := h.2 l (by omega) (by omega)
    simp [hb, hi] at this
  · have a := h.1
    have b := h.2.1
    omega
section
variable {M : Mem} {s : Nat} {S : Sc} {A : St}
theorem X5_leafAfter (hW : S.wf) (hL : ShLay M s) (hC : CSh M s S) {set : Int} (hset : isSetP S set) {l : Nat} (hl : l < S.nl) (x : Int) (h1 : 0 ≤ x) (h2 : x ≤ S.sr (S.fo l)) : f_X5_leafAfter s (i32 set) (i32 l) (i32 x) M = some (i32 (S.nxt set l x), M) := by
  have hS := hW.1
  have hfo := Sc.fo_lt hS hl
  have b3 := Sc.sr_b hS (S.fo l)
  have e0 : f_X11_lowestBit (i32 set &&& (i32 (-2) <<< (i32 l &&& i32 31))) M = some (i32 (S.beh set l), M) := by
    rw [X11_lowestBit]
    congr 3
    unfold Sc.beh
    rw [show (32 : Nat) = (l + 1) + ((S.nl - (l + 1)) + (32 - S.nl)) by omega, lowF_skip, lowF_trunc, show 0 + (l + 1) = l + 1 by omega]
    · apply lowF_congr
      intro i q1 q2
      rw [bt_and, bt_m2 (by omega) (by omega)]
      simp [show l < i by omega]
    · intro i q
      by_cases c : i < 32
      · rw [bt_and, set_hi hS hset (by omega) c]
        rfl
      · unfold bt
        rw [BitVec.getLsbD_of_ge _ _ (by omega)]
    · intro i q1 q2
      rw [bt_and, bt_m2 (by omega) (by omega)]
      simp [show ¬ l < i by omega]
  have hbb := Sc.beh_b (S := S) set l
  have hlb := Sc.levB_b hS set l
  have e1 := fun o ho => X5_levelOf hL hS hC hl (o := o) ho
  have hlev : S.levB set l = if S.beh set l = -1 then 0 else S.lev l (S.beh set l).toNat := rfl
  have em := X5_manyAround hL hS hC hl x (by omega) (by omega)
  have hmb := Sc.many_b hS l x
  obtain ⟨c0, c1, ck, cg, cl, cd, cr, -, -, -, cb, -, cf⟩ := hC
  have tail : f_X5_leafAfter_28 s (i32 set) (i32 l) (i32 x) (i32 (S.beh set l)) (i32 (S.levB set l)) M = some (i32 (S.nxt set l x), M) := by
    unfold Sc.nxt
    by_cases c : x ≤ S.levB set l
    · simp (disch := omega) only [add_i0, cast_add1, cast_sub1, toNat120, i32_lit, i32_neg, i32_add, i32_sub, i32_mul, i32_nat, i32_le, i32_lt, i32_eq, inB_i, Int.toNat_natCast, mI_sI_eq, mI_sI_ne, mR_sR_eq, mR_sR_ne, mI_sR, mR_sI, mK_sI, mN_sI, mn_sI, mJ_sI, mK_sR, mN_sR, mn_sR, mJ_sR, mI_wI, mR_wI, mK_wI, mN_wI, mn_wI, mJ_wI, ↓bnd_of, ↓bndX_r, ↓bndX_l, ↓ap_of, bnd_of, bndX_r, bndX_l, if_true, if_false, ite_true, ite_false, not_true_eq_false, not_false_eq_true, Nat.reduceAdd, Nat.reduceMul, Nat.reduceEqDiff, Int.reduceToNat, Int.reduceNeg, Ilt_t, Ilt_f, Ile_t, Ile_f, Ieq_t, Ieq_f, Nlt_t, Nlt_f, Nle_t, Nle_f, Neq_t, Neq_f, or_true, true_or, or_false, false_or, and_true, true_and, and_false, false_and, ne_eq, or_self, and_self, decide_true, decide_false, Bool.false_eq_true, f_X5_leafAfter_28]
    · have hm := Sc.many_ok hW hl (x := x) (by omega) h2
      have e2 : f_X11_lowestBit (i32 set &&& mI M (s + 9) (S.many l x).toNat) M = some (i32 (lowF (fun o => bt (i32 set) o && S.ins (S.fo o) (S.many l x).toNat) S.nl 0), M) := by
        rw [X11_lowestBit]
        congr 3
        rw [show (32 : Nat) = S.nl + (32 - S.nl) by omega, lowF_trunc]
        · apply lowF_congr
          intro i q1 q2
          rw [bt_and, cb _ i (by omega) (by omega)]
          simp [show i < S.nl by omega]
        · intro i q
          by_cases c : i < 32
          · rw [bt_and, set_hi hS hset (by omega) c]
            rfl
          · unfold bt
            rw [BitVec.getLsbD_of_ge _ _ (by omega)]
      simp (disch := omega) only [add_i0, cast_add1, cast_sub1, toNat120, i32_lit, i32_neg, i32_add, i32_sub, i32_mul, i32_nat, i32_le, i32_lt, i32_eq, inB_i, Int.toNat_natCast, mI_sI_eq, mI_sI_ne, mR_sR_eq, mR_sR_ne, mI_sR, mR_sI, mK_sI, mN_sI, mn_sI, mJ_sI, mK_sR, mN_sR, mn_sR, mJ_sR, mI_wI, mR_wI, mK_wI, mN_wI, mn_wI, mJ_wI, ↓bnd_of, ↓bndX_r, ↓bndX_l, ↓ap_of, bnd_of, bndX_r, bndX_l, if_true, if_false, ite_true, ite_false, not_true_eq_false, not_false_eq_true, Nat.reduceAdd, Nat.reduceMul, Nat.reduceEqDiff, Int.reduceToNat, Int.reduceNeg, Ilt_t, Ilt_f, Ile_t, Ile_f, Ieq_t, Ieq_f, Nlt_t, Nlt_f, Nle_t, Nle_f, Neq_t, Neq_f, or_true, true_or, or_false, false_or, and_true, true_and, and_false, false_and, ne_eq, or_self, and_self, decide_true, decide_false, Bool.false_eq_true, f_X5_leafAfter_28, hL.o, ↓bx em, e2]
  by_cases c : S.beh set l = -1
  · rw [if_pos c] at hlev
    rw [hlev, c] at tail
    rw [c] at e0
    simp (disch := omega) only [add_i0, cast_add1, cast_sub1, toNat120, i32_lit, i32_neg, i32_add, i32_sub, i32_mul, i32_nat, i32_le, i32_lt, i32_eq, inB_i, Int.toNat_natCast, mI_sI_eq, mI_sI_ne, mR_sR_eq, mR_sR_ne, mI_sR, mR_sI, mK_sI, mN_sI, mn_sI, mJ_sI, mK_sR, mN_sR, mn_sR, mJ_sR, mI_wI, mR_wI, mK_wI, mN_wI, mn_wI, mJ_wI, ↓bnd_of, ↓bndX_r, ↓bndX_l, ↓ap_of, bnd_of, bndX_r, bndX_l, if_true, if_false, ite_true, ite_false, not_true_eq_false, not_false_eq_true, Nat.reduceAdd, Nat.reduceMul, Nat.reduceEqDiff, Int.reduceToNat, Int.reduceNeg, Ilt_t, Ilt_f, Ile_t, Ile_f, Ieq_t, Ieq_f, Nlt_t, Nlt_f, Nle_t, Nle_f, Neq_t, Neq_f, or_true, true_or, or_false, false_or, and_true, true_and, and_false, false_and, ne_eq, or_self, and_self, decide_true, decide_false, Bool.false_eq_true, f_X5_leafAfter, e0, tail]
  · rw [if_neg c] at hlev
    obtain ⟨o, ho⟩ : ∃ o : Nat, S.beh set l = o := ⟨(S.beh set l).toNat, by omega⟩
    have e2 := e1 o (by omega)
    rw [ho, Int.toNat_natCast] at hlev
    rw [← hlev] at e2
    rw [ho] at e0 tail
    simp (disch := omega) only [add_i0, cast_add1, cast_sub1, toNat120, i32_lit, i32_neg, i32_add, i32_sub, i32_mul, i32_nat, i32_le, i32_lt, i32_eq, inB_i, Int.toNat_natCast, mI_sI_eq, mI_sI_ne, mR_sR_eq, mR_sR_ne, mI_sR, mR_sI, mK_sI, mN_sI, mn_sI, mJ_sI, mK_sR, mN_sR, mn_sR, mJ_sR, mI_wI, mR_wI, mK_wI, mN_wI, mn_wI, mJ_wI, ↓bnd_of, ↓bndX_r, ↓bndX_l, ↓ap_of, bnd_of, bndX_r, bndX_l, if_true, if_false, ite_true, ite_false, not_true_eq_false, not_false_eq_true, Nat.reduceAdd, Nat.reduceMul, Nat.reduceEqDiff, Int.reduceToNat, Int.reduceNeg, Ilt_t, Ilt_f, Ile_t, Ile_f, Ieq_t, Ieq_f, Nlt_t, Nlt_f, Nle_t, Nle_f, Neq_t, Neq_f, or_true, true_or, or_false, false_or, and_true, true_and, and_false, false_and, ne_eq, or_self, and_self, decide_true, decide_false, Bool.false_eq_true, f_X5_leafAfter, e0, hL.o, e2, tail]
theorem X12_levelBehind (hW : S.wf) (hV : RV M S A) (set : Int) {l : Nat} (hl : l < S.nl) : f_X12_levelBehind 134 (i32 set) (i32 l) M = some (i32 (S.levB set l), M) := by
  have hS := hW.1
  have hL := hV.1
  have hR := hV.2.1
  have hfo := Sc.fo_lt hS hl
  have eb := fun o ho => X12_both hL hS hR hl (o := o) ho
  have hbb := fun o => Sc.both_b hS l o
  obtain ⟨c0, c1, ck, cg, cl, cd, cr, -⟩ := hR
  have H : ∀ (k j n : Nat), j + k = S.nl → k < n → f_X12_levelBehind_4 n 134 (i32 set) (i32 l) (i32 j) M = some (i32 (if lowF (bt (i32 set)) k j = -1 then 0 else S.lev l (lowF (bt (i32 set)) k j).toNat), M) := by
    intro k
    induction k with
    | zero =>
      intro j n hj hn
      obtain ⟨n, rfl⟩ : ∃ m, n = m + 1 := ⟨n - 1, by omega⟩
      simp (disch := omega) only [add_i0, cast_add1, cast_sub1, toNat120, i32_lit, i32_neg, i32_add, i32_sub, i32_mul, i32_nat, i32_le, i32_lt, i32_eq, inB_i, Int.toNat_natCast, mI_sI_eq, mI_sI_ne, mR_sR_eq, mR_sR_ne, mI_sR, mR_sI, mK_sI, mN_sI, mn_sI, mJ_sI, mK_sR, mN_sR, mn_sR, mJ_sR, mI_wI, mR_wI, mK_wI, mN_wI, mn_wI, mJ_wI, ↓bnd_of, ↓bndX_r, ↓bndX_l, ↓ap_of, bnd_of, bndX_r, bndX_l, if_true, if_false, ite_true, ite_false, not_true_eq_false, not_false_eq_true, Nat.reduceAdd, Nat.reduceMul, Nat.reduceEqDiff, Int.reduceToNat, Int.reduceNeg, Ilt_t, Ilt_f, Ile_t, Ile_f, Ieq_t, Ieq_f, Nlt_t, Nlt_f, Nle_t, Nle_f, Neq_t, Neq_f, or_true, true_or, or_false, false_or, and_true, true_and, and_false, false_and, ne_eq, or_self, and_self, decide_true, decide_false, Bool.false_eq_true, f_X12_levelBehind_4, f_X12_levelBehind_28, lowF, hL.o, c1]
    | succ k ih =>
      intro j n hj hn
      obtain ⟨n, rfl⟩ : ∃ m, n = m + 1 := ⟨n - 1, by omega⟩
      have ei := X12_isOf (M := M) (i32 set) (i := j) (by omega)
      by_cases c : bt (i32 set) j = true
      · have e1 := eb j (by omega)
        have b1 := hbb j
        rw [if_pos c] at ei
        have e2 : (if lowF (bt (i32 set)) (k + 1) j = -1 then 0 else S.lev l (lowF (bt (i32 set)) (k + 1) j).toNat) = S.lev l j := by
          have : lowF (bt (i32 set)) (k + 1) j = j := by unfold lowF; rw [if_pos c]
          rw [this, if_neg (by omega)]
          rfl
        rw [e2]
        unfold Sc.lev
        by_cases d : S.both l j = -1
        · rw [d] at e1
          simp (disch := omega) only [add_i0, cast_add1, cast_sub1, toNat120, i32_lit, i32_neg, i32_add, i32_sub, i32_mul, i32_nat, i32_le, i32_lt, i32_eq, inB_i, Int.toNat_natCast, mI_sI_eq, mI_sI_ne, mR_sR_eq, mR_sR_ne, mI_sR, mR_sI, mK_sI, mN_sI, mn_sI, mJ_sI, mK_sR, mN_sR, mn_sR, mJ_sR, mI_wI, mR_wI, mK_wI, mN_wI, mn_wI, mJ_wI, ↓bnd_of, ↓bndX_r, ↓bndX_l, ↓ap_of, bnd_of, bndX_r, bndX_l, if_true, if_false, ite_true, ite_false, not_true_eq_false, not_false_eq_true, Nat.reduceAdd, Nat.reduceMul, Nat.reduceEqDiff, Int.reduceToNat, Int.reduceNeg, Ilt_t, Ilt_f, Ile_t, Ile_f, Ieq_t, Ieq_f, Nlt_t, Nlt_f, Nle_t, Nle_f, Neq_t, Neq_f, or_true, true_or, or_false, false_or, and_true, true_and, and_false, false_and, ne_eq, or_self, and_self, decide_true, decide_false, Bool.false_eq_true, f_X12_levelBehind_4, f_X12_levelBehind_28, hL.o, c1, ↓bx ei, ↓bx e1, d]
        · simp (disch := omega) only [add_i0, cast_add1, cast_sub1, toNat120, i32_lit, i32_neg, i32_add, i32_sub, i32_mul, i32_nat, i32_le, i32_lt, i32_eq, inB_i, Int.toNat_natCast, mI_sI_eq, mI_sI_ne, mR_sR_eq, mR_sR_ne, mI_sR, mR_sI, mK_sI, mN_sI, mn_sI, mJ_sI, mK_sR, mN_sR, mn_sR, mJ_sR, mI_wI, mR_wI, mK_wI, mN_wI, mn_wI, mJ_wI, ↓bnd_of, ↓bndX_r, ↓bndX_l, ↓ap_of, bnd_of, bndX_r, bndX_l, if_true, if_false, ite_true, ite_false, not_true_eq_false, not_false_eq_true, Nat.reduceAdd, Nat.reduceMul, Nat.reduceEqDiff, Int.reduceToNat, Int.reduceNeg, Ilt_t, Ilt_f, Ile_t, Ile_f, Ieq_t, Ieq_f, Nlt_t, Nlt_f, Nle_t, Nle_f, Neq_t, Neq_f, or_true, true_or, or_false, false_or, and_true, true_and, and_false, false_and, ne_eq, or_self, and_self, decide_true, decide_false, Bool.false_eq_true, f_X12_levelBehind_4, f_X12_levelBehind_28, hL.o, c1, ↓bx ei, ↓bx e1, cr]
      · rw [if_neg c] at ei
        have e2 : lowF (bt (i32 set)) (k + 1) j = lowF (bt (i32 set)) k (j + 1) := by
          conv => lhs; unfold lowF
          rw [if_neg c]
        rw [e2, ← ih (j + 1) n (by omega) (by omega)]
        simp (disch := omega) only [add_i0, cast_add1, cast_sub1, toNat120, i32_lit, i32_neg, i32_add, i32_sub, i32_mul, i32_nat, i32_le, i32_lt, i32_eq, inB_i, Int.toNat_natCast, mI_sI_eq, mI_sI_ne, mR_sR_eq, mR_sR_ne, mI_sR, mR_sI, mK_sI, mN_sI, mn_sI, mJ_sI, mK_sR, mN_sR, mn_sR, mJ_sR, mI_wI, mR_wI, mK_wI, mN_wI, mn_wI, mJ_wI, ↓bnd_of, ↓bndX_r, ↓bndX_l, ↓ap_of, bnd_of, bndX_r, bndX_l, if_true, if_false, ite_true, ite_false, not_true_eq_false, not_false_eq_true, Nat.reduceAdd, Nat.reduceMul, Nat.reduceEqDiff, Int.reduceToNat, Int.reduceNeg, Ilt_t, Ilt_f, Ile_t, Ile_f, Ieq_t, Ieq_f, Nlt_t, Nlt_f, Nle_t, Nle_f, Neq_t, Neq_f, or_true, true_or, or_false, false_or, and_true, true_and, and_false, false_and, ne_eq, or_self, and_self, decide_true, decide_false, Bool.false_eq_true, f_X12_levelBehind_4, hL.o, c1, ↓bx ei]
  have h := H (S.nl - (l + 1)) (l + 1) FUEL (by omega) (by unfold FUEL; omega)
  unfold f_X12_levelBehind
  rw [k_add1]
  exact h
theorem X12_nextOf (hW : S.wf) (hV : RV M S A) (set : Int) {l : Nat} (hl : l < S.nl) (hb : bt (i32 set) l = true) (x : Int) (h1 : 0 ≤ x) (h2 : x ≤ S.sr (S.fo l)) : f_X12_nextOf 134 (i32 set) (i32 l) (i32 x) M = some (i32 (S.nxt set l x), M) := by
  have hS := hW.1
  have hL := hV.1
  have hR := hV.2.1
  have hfo := Sc.fo_lt hS hl
  have b3 := Sc.sr_b hS (S.fo l)
  have e0 := X12_levelBehind hW hV set hl
  have hlb := Sc.levB_b hS set l
  have ein := fun k g => X12_isInside hL hS hR k g
  have eo := fun h3 h4 => X12_oftenAround hL hS hR hl x h1 h3 h4
  obtain ⟨c0, c1, ck, cg, cl, cd, cr, -, -, -, cf⟩ := hR
  have H : ∀ (k j n : Nat), j + k = S.nl → k < n → f_X12_nextOf_71 n 134 (i32 set) (i32 j) M = some (i32 (lowF (bt (i32 set)) k j), M) := by
    intro k
    induction k with
    | zero =>
      intro j n hj hn
      obtain ⟨n, rfl⟩ : ∃ m, n = m + 1 := ⟨n - 1, by omega⟩
      simp (disch := omega) only [add_i0, cast_add1, cast_sub1, toNat120, i32_lit, i32_neg, i32_add, i32_sub, i32_mul, i32_nat, i32_le, i32_lt, i32_eq, inB_i, Int.toNat_natCast, mI_sI_eq, mI_sI_ne, mR_sR_eq, mR_sR_ne, mI_sR, mR_sI, mK_sI, mN_sI, mn_sI, mJ_sI, mK_sR, mN_sR, mn_sR, mJ_sR, mI_wI, mR_wI, mK_wI, mN_wI, mn_wI, mJ_wI, ↓bnd_of, ↓bndX_r, ↓bndX_l, ↓ap_of, bnd_of, bndX_r, bndX_l, if_true, if_false, ite_true, ite_false, not_true_eq_false, not_false_eq_true, Nat.reduceAdd, Nat.reduceMul, Nat.reduceEqDiff, Int.reduceToNat, Int.reduceNeg, Ilt_t, Ilt_f, Ile_t, Ile_f, Ieq_t, Ieq_f, Nlt_t, Nlt_f, Nle_t, Nle_f, Neq_t, Neq_f, or_true, true_or, or_false, false_or, and_true, true_and, and_false, false_and, ne_eq, or_self, and_self, decide_true, decide_false, Bool.false_eq_true, f_X12_nextOf_71, lowF, hL.o, c1]
    | succ k ih =>
      intro j n hj hn
      obtain ⟨n, rfl⟩ : ∃ m, n = m + 1 := ⟨n - 1, by omega⟩
      have ei := X12_isOf (M := M) (i32 set) (i := j) (by omega)
      simp (disch := omega) only [add_i0, cast_add1, cast_sub1, toNat120, i32_lit, i32_neg, i32_add, i32_sub, i32_mul, i32_nat, i32_le, i32_lt, i32_eq, inB_i, Int.toNat_natCast, mI_sI_eq, mI_sI_ne, mR_sR_eq, mR_sR_ne, mI_sR, mR_sI, mK_sI, mN_sI, mn_sI, mJ_sI, mK_sR, mN_sR, mn_sR, mJ_sR, mI_wI, mR_wI, mK_wI, mN_wI, mn_wI, mJ_wI, ↓bnd_of, ↓bndX_r, ↓bndX_l, ↓ap_of, bnd_of, bndX_r, bndX_l, if_true, if_false, ite_true, ite_false, not_true_eq_false, not_false_eq_true, Nat.reduceAdd, Nat.reduceMul, Nat.reduceEqDiff, Int.reduceToNat, Int.reduceNeg, Ilt_t, Ilt_f, Ile_t, Ile_f, Ieq_t, Ieq_f, Nlt_t, Nlt_f, Nle_t, Nle_f, Neq_t, Neq_f, or_true, true_or, or_false, false_or, and_true, true_and, and_false, false_and, ne_eq, or_self, and_self, decide_true, decide_false, Bool.false_eq_true, f_X12_nextOf_71, lowF, hL.o, c1, ↓bx ei, ite10, ih]
      (first | done | with_reducible rfl | ((repeat' split) <;> (first | with_reducible rfl | (exfalso; omega) | grind)))
  by_cases c : x ≤ S.levB set l
  · have h := H (S.nl - (l + 1)) (l + 1) FUEL (by omega) (by unfold FUEL; omega)
    have e : S.nxt set l x = S.beh set l := by unfold Sc.nxt; rw [if_pos c]
    rw [e]
    have h' : f_X12_nextOf_66 134 (i32 set) (i32 l) M = some (i32 (S.beh set l), M) := by
      unfold f_X12_nextOf_66
      rw [k_add1]
      exact h
    simp (disch := omega) only [add_i0, cast_add1, cast_sub1, toNat120, i32_lit, i32_neg, i32_add, i32_sub, i32_mul, i32_nat, i32_le, i32_lt, i32_eq, inB_i, Int.toNat_natCast, mI_sI_eq, mI_sI_ne, mR_sR_eq, mR_sR_ne, mI_sR, mR_sI, mK_sI, mN_sI, mn_sI, mJ_sI, mK_sR, mN_sR, mn_sR, mJ_sR, mI_wI, mR_wI, mK_wI, mN_wI, mn_wI, mJ_wI, ↓bnd_of, ↓bndX_r, ↓bndX_l, ↓ap_of, bnd_of, bndX_r, bndX_l, if_true, if_false, ite_true, ite_false, not_true_eq_false, not_false_eq_true, Nat.reduceAdd, Nat.reduceMul, Nat.reduceEqDiff, Int.reduceToNat, Int.reduceNeg, Ilt_t, Ilt_f, Ile_t, Ile_f, Ieq_t, Ieq_f, Nlt_t, Nlt_f, Nle_t, Nle_f, Neq_t, Neq_f, or_true, true_or, or_false, false_or, and_true, true_and, and_false, false_and, ne_eq, or_self, and_self, decide_true, decide_false, Bool.false_eq_true, f_X12_nextOf, hL.o, ↓bx e0, h']
  · have hm := Sc.many_ok hW hl (x := x) (by omega) h2
    have hmb := Sc.many_b hS l x
    have e1 := eo (by omega) hm
    obtain ⟨g, hg⟩ : ∃ g : Nat, S.many l x = g := ⟨(S.many l x).toNat, by omega⟩
    have e : S.nxt set l x = lowF (fun o => bt (i32 set) o && S.ins (S.fo o) g) S.nl 0 := by unfold Sc.nxt; rw [if_neg c, hg]; rfl
    rw [e]
    rw [hg] at e1 hmb
    have hin := Sc.nxt_in hW hl hb (x := x) (by omega) h2
    rw [hg, Int.toNat_natCast] at hin
    have H2 : ∀ (k j n : Nat), j + k = S.nl → k < n → lowF (fun o => bt (i32 set) o && S.ins (S.fo o) g) k j ≠ -1 → f_X12_nextOf_21 n 134 (i32 set) (i32 l) (i32 g) (i32 j) M = some (i32 (lowF (fun o => bt (i32 set) o && S.ins (S.fo o) g) k j), M) := by
      intro k
      induction k with
      | zero => intro j n hj hn h; exact absurd rfl h
      | succ k ih =>
        intro j n hj hn h
        obtain ⟨n, rfl⟩ : ∃ m, n = m + 1 := ⟨n - 1, by omega⟩
        have ei := X12_isOf (M := M) (i32 set) (i := j) (by omega)
        have hfj := Sc.fo_lt hS (show j < S.nl by omega)
        have e2 := ein (S.fo j) g (by omega) (by omega) (by omega)
        by_cases d : bt (i32 set) j = true
        · rw [if_pos d] at ei
          by_cases d2 : S.ins (S.fo j) g = true
          · rw [if_pos d2] at e2
            have e3 : lowF (fun o => bt (i32 set) o && S.ins (S.fo o) g) (k + 1) j = j := by unfold lowF; rw [if_pos (by rw [d, d2]; rfl)]
            rw [e3]
            simp (disch := omega) only [add_i0, cast_add1, cast_sub1, toNat120, i32_lit, i32_neg, i32_add, i32_sub, i32_mul, i32_nat, i32_le, i32_lt, i32_eq, inB_i, Int.toNat_natCast, mI_sI_eq, mI_sI_ne, mR_sR_eq, mR_sR_ne, mI_sR, mR_sI, mK_sI, mN_sI, mn_sI, mJ_sI, mK_sR, mN_sR, mn_sR, mJ_sR, mI_wI, mR_wI, mK_wI, mN_wI, mn_wI, mJ_wI, ↓bnd_of, ↓bndX_r, ↓bndX_l, ↓ap_of, bnd_of, bndX_r, bndX_l, if_true, if_false, ite_true, ite_false, not_true_eq_false, not_false_eq_true, Nat.reduceAdd, Nat.reduceMul, Nat.reduceEqDiff, Int.reduceToNat, Int.reduceNeg, Ilt_t, Ilt_f, Ile_t, Ile_f, Ieq_t, Ieq_f, Nlt_t, Nlt_f, Nle_t, Nle_f, Neq_t, Neq_f, or_true, true_or, or_false, false_or, and_true, true_and, and_false, false_and, ne_eq, or_self, and_self, decide_true, decide_false, Bool.false_eq_true, f_X12_nextOf_21, hL.o, c1, cf, ↓bx ei, e2]
          · rw [if_neg d2] at e2
            have e3 : lowF (fun o => bt (i32 set) o && S.ins (S.fo o) g) (k + 1) j = lowF (fun o => bt (i32 set) o && S.ins (S.fo o) g) k (j + 1) := by
              conv => lhs; unfold lowF
              rw [if_neg (by simp [d2])]
            rw [e3] at h ⊢
            rw [← ih (j + 1) n (by omega) (by omega) h]
            simp (disch := omega) only [add_i0, cast_add1, cast_sub1, toNat120, i32_lit, i32_neg, i32_add, i32_sub, i32_mul, i32_nat, i32_le, i32_lt, i32_eq, inB_i, Int.toNat_natCast, mI_sI_eq, mI_sI_ne, mR_sR_eq, mR_sR_ne, mI_sR, mR_sI, mK_sI, mN_sI, mn_sI, mJ_sI, mK_sR, mN_sR, mn_sR, mJ_sR, mI_wI, mR_wI, mK_wI, mN_wI, mn_wI, mJ_wI, ↓bnd_of, ↓bndX_r, ↓bndX_l, ↓ap_of, bnd_of, bndX_r, bndX_l, if_true, if_false, ite_true, ite_false, not_true_eq_false, not_false_eq_true, Nat.reduceAdd, Nat.reduceMul, Nat.reduceEqDiff, Int.reduceToNat, Int.reduceNeg, Ilt_t, Ilt_f, Ile_t, Ile_f, Ieq_t, Ieq_f, Nlt_t, Nlt_f, Nle_t, Nle_f, Neq_t, Neq_f, or_true, true_or, or_false, false_or, and_true, true_and, and_false, false_and, ne_eq, or_self, and_self, decide_true, decide_false, Bool.false_eq_true, f_X12_nextOf_21, f_X12_nextOf_60, hL.o, c1, cf, ↓bx ei, e2]
        · rw [if_neg d] at ei
          have e3 : lowF (fun o => bt (i32 set) o && S.ins (S.fo o) g) (k + 1) j = lowF (fun o => bt (i32 set) o && S.ins (S.fo o) g) k (j + 1) := by
            conv => lhs; unfold lowF
            rw [if_neg (by simp [d])]
          rw [e3] at h ⊢
          rw [← ih (j + 1) n (by omega) (by omega) h]
          simp (disch := omega) only [add_i0, cast_add1, cast_sub1, toNat120, i32_lit, i32_neg, i32_add, i32_sub, i32_mul, i32_nat, i32_le, i32_lt, i32_eq, inB_i, Int.toNat_natCast, mI_sI_eq, mI_sI_ne, mR_sR_eq, mR_sR_ne, mI_sR, mR_sI, mK_sI, mN_sI, mn_sI, mJ_sI, mK_sR, mN_sR, mn_sR, mJ_sR, mI_wI, mR_wI, mK_wI, mN_wI, mn_wI, mJ_wI, ↓bnd_of, ↓bndX_r, ↓bndX_l, ↓ap_of, bnd_of, bndX_r, bndX_l, if_true, if_false, ite_true, ite_false, not_true_eq_false, not_false_eq_true, Nat.reduceAdd, Nat.reduceMul, Nat.reduceEqDiff, Int.reduceToNat, Int.reduceNeg, Ilt_t, Ilt_f, Ile_t, Ile_f, Ieq_t, Ieq_f, Nlt_t, Nlt_f, Nle_t, Nle_f, Neq_t, Neq_f, or_true, true_or, or_false, false_or, and_true, true_and, and_false, false_and, ne_eq, or_self, and_self, decide_true, decide_false, Bool.false_eq_true, f_X12_nextOf_21, f_X12_nextOf_60, hL.o, c1, cf, ↓bx ei]
    have h := H2 S.nl 0 FUEL (by omega) (by unfold FUEL; omega) (by omega)
    simp (disch := omega) only [add_i0, cast_add1, cast_sub1, toNat120, i32_lit, i32_neg, i32_add, i32_sub, i32_mul, i32_nat, i32_le, i32_lt, i32_eq, inB_i, Int.toNat_natCast, mI_sI_eq, mI_sI_ne, mR_sR_eq, mR_sR_ne, mI_sR, mR_sI, mK_sI, mN_sI, mn_sI, mJ_sI, mK_sR, mN_sR, mn_sR, mJ_sR, mI_wI, mR_wI, mK_wI, mN_wI, mn_wI, mJ_wI, ↓bnd_of, ↓bndX_r, ↓bndX_l, ↓ap_of, bnd_of, bndX_r, bndX_l, if_true, if_false, ite_true, ite_false, not_true_eq_false, not_false_eq_true, Nat.reduceAdd, Nat.reduceMul, Nat.reduceEqDiff, Int.reduceToNat, Int.reduceNeg, Ilt_t, Ilt_f, Ile_t, Ile_f, Ieq_t, Ieq_f, Nlt_t, Nlt_f, Nle_t, Nle_f, Neq_t, Neq_f, or_true, true_or, or_false, false_or, and_true, true_and, and_false, false_and, ne_eq, or_self, and_self, decide_true, decide_false, Bool.false_eq_true, f_X12_nextOf, hL.o, ↓bx e0, ↓bx e1]
    exact h
theorem X11_needSet (hV : CV M s S A) (h8 : mR M 1 8 = s) (hS : S.ok) (z : Int) (z1 : -2147483648 ≤ z) (z2 : z ≤ 2147483647) [Decidable (isSetP S z)] : f_X11_needSet 1 (i32 z) M = some (if isSetP S z then .inr () else .inl 2, M) := by
  obtain ⟨hL, hc, hs, hC, -⟩ := hV
  have c1 := hC.2.1
  have b := hS.2.1
  by_cases c : 0 < z
  · have e := ushr0 b (by omega) z2 (z := z)
    by_cases d : z < 2 ^ S.nl
    · rw [if_pos ⟨c, d⟩]
      rw [eq_true d] at e
      simp (disch := omega) only [add_i0, cast_add1, cast_sub1, toNat120, i32_lit, i32_neg, i32_add, i32_sub, i32_mul, i32_nat, i32_le, i32_lt, i32_eq, inB_i, Int.toNat_natCast, mI_sI_eq, mI_sI_ne, mR_sR_eq, mR_sR_ne, mI_sR, mR_sI, mK_sI, mN_sI, mn_sI, mJ_sI, mK_sR, mN_sR, mn_sR, mJ_sR, mI_wI, mR_wI, mK_wI, mN_wI, mn_wI, mJ_wI, ↓bnd_of, ↓bndX_r, ↓bndX_l, ↓ap_of, bnd_of, bndX_r, bndX_l, if_true, if_false, ite_true, ite_false, not_true_eq_false, not_false_eq_true, Nat.reduceAdd, Nat.reduceMul, Nat.reduceEqDiff, Int.reduceToNat, Int.reduceNeg, Ilt_t, Ilt_f, Ile_t, Ile_f, Ieq_t, Ieq_f, Nlt_t, Nlt_f, Nle_t, Nle_f, Neq_t, Neq_f, or_true, true_or, or_false, false_or, and_true, true_and, and_false, false_and, ne_eq, or_self, and_self, decide_true, decide_false, Bool.false_eq_true, f_X11_needSet, f_X11_needSet_16, hL.o, h8, hs.o, c1, e]
    · rw [if_neg (fun q => d q.2)]
      rw [eq_false d] at e
      simp (disch := omega) only [add_i0, cast_add1, cast_sub1, toNat120, i32_lit, i32_neg, i32_add, i32_sub, i32_mul, i32_nat, i32_le, i32_lt, i32_eq, inB_i, Int.toNat_natCast, mI_sI_eq, mI_sI_ne, mR_sR_eq, mR_sR_ne, mI_sR, mR_sI, mK_sI, mN_sI, mn_sI, mJ_sI, mK_sR, mN_sR, mn_sR, mJ_sR, mI_wI, mR_wI, mK_wI, mN_wI, mn_wI, mJ_wI, ↓bnd_of, ↓bndX_r, ↓bndX_l, ↓ap_of, bnd_of, bndX_r, bndX_l, if_true, if_false, ite_true, ite_false, not_true_eq_false, not_false_eq_true, Nat.reduceAdd, Nat.reduceMul, Nat.reduceEqDiff, Int.reduceToNat, Int.reduceNeg, Ilt_t, Ilt_f, Ile_t, Ile_f, Ieq_t, Ieq_f, Nlt_t, Nlt_f, Nle_t, Nle_f, Neq_t, Neq_f, or_true, true_or, or_false, false_or, and_true, true_and, and_false, false_and, ne_eq, or_self, and_self, decide_true, decide_false, Bool.false_eq_true, f_X11_needSet, f_X11_needSet_16, hL.o, h8, hs.o, c1, e]
  · rw [if_neg (fun q => c q.1)]
    simp (disch := omega) only [add_i0, cast_add1, cast_sub1, toNat120, i32_lit, i32_neg, i32_add, i32_sub, i32_mul, i32_nat, i32_le, i32_lt, i32_eq, inB_i, Int.toNat_natCast, mI_sI_eq, mI_sI_ne, mR_sR_eq, mR_sR_ne, mI_sR, mR_sI, mK_sI, mN_sI, mn_sI, mJ_sI, mK_sR, mN_sR, mn_sR, mJ_sR, mI_wI, mR_wI, mK_wI, mN_wI, mn_wI, mJ_wI, ↓bnd_of, ↓bndX_r, ↓bndX_l, ↓ap_of, bnd_of, bndX_r, bndX_l, if_true, if_false, ite_true, ite_false, not_true_eq_false, not_false_eq_true, Nat.reduceAdd, Nat.reduceMul, Nat.reduceEqDiff, Int.reduceToNat, Int.reduceNeg, Ilt_t, Ilt_f, Ile_t, Ile_f, Ieq_t, Ieq_f, Nlt_t, Nlt_f, Nle_t, Nle_f, Neq_t, Neq_f, or_true, true_or, or_false, false_or, and_true, true_and, and_false, false_and, ne_eq, or_self, and_self, decide_true, decide_false, Bool.false_eq_true, f_X11_needSet, f_X11_needSet_16]
theorem X12_isSet (hV : RV M S A) (hS : S.ok) (z : Int) (z1 : -2147483648 ≤ z) (z2 : z ≤ 2147483647) [Decidable (isSetP S z)] : f_X12_isSet 134 (i32 z) M = some (if isSetP S z then i32 1 else i32 0, M) := by
  have hL := hV.1
  have c1 := hV.2.1.2.1
  have b := hS.2.1
  have bp := pow8 b
  have e := shl1 b
  by_cases c : 0 < z
  · by_cases d : z < 2 ^ S.nl
    · rw [if_pos ⟨c, d⟩]
      simp (disch := omega) only [add_i0, cast_add1, cast_sub1, toNat120, i32_lit, i32_neg, i32_add, i32_sub, i32_mul, i32_nat, i32_le, i32_lt, i32_eq, inB_i, Int.toNat_natCast, mI_sI_eq, mI_sI_ne, mR_sR_eq, mR_sR_ne, mI_sR, mR_sI, mK_sI, mN_sI, mn_sI, mJ_sI, mK_sR, mN_sR, mn_sR, mJ_sR, mI_wI, mR_wI, mK_wI, mN_wI, mn_wI, mJ_wI, ↓bnd_of, ↓bndX_r, ↓bndX_l, ↓ap_of, bnd_of, bndX_r, bndX_l, if_true, if_false, ite_true, ite_false, not_true_eq_false, not_false_eq_true, Nat.reduceAdd, Nat.reduceMul, Nat.reduceEqDiff, Int.reduceToNat, Int.reduceNeg, Ilt_t, Ilt_f, Ile_t, Ile_f, Ieq_t, Ieq_f, Nlt_t, Nlt_f, Nle_t, Nle_f, Neq_t, Neq_f, or_true, true_or, or_false, false_or, and_true, true_and, and_false, false_and, ne_eq, or_self, and_self, decide_true, decide_false, Bool.false_eq_true, f_X12_isSet, hL.o, c1, e]
    · rw [if_neg (fun q => d q.2)]
      simp (disch := omega) only [add_i0, cast_add1, cast_sub1, toNat120, i32_lit, i32_neg, i32_add, i32_sub, i32_mul, i32_nat, i32_le, i32_lt, i32_eq, inB_i, Int.toNat_natCast, mI_sI_eq, mI_sI_ne, mR_sR_eq, mR_sR_ne, mI_sR, mR_sI, mK_sI, mN_sI, mn_sI, mJ_sI, mK_sR, mN_sR, mn_sR, mJ_sR, mI_wI, mR_wI, mK_wI, mN_wI, mn_wI, mJ_wI, ↓bnd_of, ↓bndX_r, ↓bndX_l, ↓ap_of, bnd_of, bndX_r, bndX_l, if_true, if_false, ite_true, ite_false, not_true_eq_false, not_false_eq_true, Nat.reduceAdd, Nat.reduceMul, Nat.reduceEqDiff, Int.reduceToNat, Int.reduceNeg, Ilt_t, Ilt_f, Ile_t, Ile_f, Ieq_t, Ieq_f, Nlt_t, Nlt_f, Nle_t, Nle_f, Neq_t, Neq_f, or_true, true_or, or_false, false_or, and_true, true_and, and_false, false_and, ne_eq, or_self, and_self, decide_true, decide_false, Bool.false_eq_true, f_X12_isSet, hL.o, c1, e]
  · rw [if_neg (fun q => c q.1)]
    simp (disch := omega) only [add_i0, cast_add1, cast_sub1, toNat120, i32_lit, i32_neg, i32_add, i32_sub, i32_mul, i32_nat, i32_le, i32_lt, i32_eq, inB_i, Int.toNat_natCast, mI_sI_eq, mI_sI_ne, mR_sR_eq, mR_sR_ne, mI_sR, mR_sI, mK_sI, mN_sI, mn_sI, mJ_sI, mK_sR, mN_sR, mn_sR, mJ_sR, mI_wI, mR_wI, mK_wI, mN_wI, mn_wI, mJ_wI, ↓bnd_of, ↓bndX_r, ↓bndX_l, ↓ap_of, bnd_of, bndX_r, bndX_l, if_true, if_false, ite_true, ite_false, not_true_eq_false, not_false_eq_true, Nat.reduceAdd, Nat.reduceMul, Nat.reduceEqDiff, Int.reduceToNat, Int.reduceNeg, Ilt_t, Ilt_f, Ile_t, Ile_f, Ieq_t, Ieq_f, Nlt_t, Nlt_f, Nle_t, Nle_f, Neq_t, Neq_f, or_true, true_or, or_false, false_or, and_true, true_and, and_false, false_and, ne_eq, or_self, and_self, decide_true, decide_false, Bool.false_eq_true, f_X12_isSet]
end
