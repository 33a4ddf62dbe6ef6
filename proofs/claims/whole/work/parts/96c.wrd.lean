/-! Words and numbers of a text -/
theorem i32_ofNat (k : Nat) : Int32.ofNat k = i32 (k : Int) := by
  apply Int32.toBitVec.inj
  exact (BitVec.ofInt_natCast 32 k).symm
def wdF (tb : Nat → Int) (b : Nat) (W : List Int32) : Nat → Nat → Bool
  | 0, _ => true
  | k + 1, j => if i32 (tb (b + j)) = W.getD j 0 then wdF tb b W k (j + 1) else false
/-- the token is the word W -/
def isW (tb : Nat → Int) (n e : Nat) (W : List Int32) : Bool := decide (tkK tb n e = 1) && (decide (W.length = tkE tb n e - tkB tb n e) && wdF tb (tkB tb n e) W W.length 0)
def kwF (tb : Nat → Int) (n e : Nat) : Int := if isW tb n e [111, 110, 101] = true then 0 else if isW tb n e [109, 97, 121, 98, 101] = true then 1 else if isW tb n e [109, 97, 110, 121] = true then 2 else -1
def swF (tb : Nat → Int) (n e : Nat) : Int := if isW tb n e [112, 108, 117, 115] = true then 0 else if isW tb n e [116, 105, 109, 101, 115] = true then 1 else if isW tb n e [109, 111, 100] = true then 2 else if isW tb n e [108, 101, 115, 115] = true then 3 else if isW tb n e [109, 111, 114, 101] = true then 4 else if isW tb n e [102, 105, 114, 115, 116] = true then 5 else if isW tb n e [103, 97, 112] = true then 6 else -1
/-- the fault of a number; the number -/
def nfS (tb : Nat → Int) (n e : Nat) : Int := if tkK tb n e = 2 then (if tkE tb n e - tkB tb n e ≤ 3 then 0 else 2) else 1
def nmS (tb : Nat → Int) (n e : Nat) : Int := nmF tb (tkE tb n e - tkB tb n e) (tkB tb n e) 0
theorem isW_k {tb : Nat → Int} {n e : Nat} {W : List Int32} (h : isW tb n e W = true) : tkK tb n e = 1 := by
  unfold isW at h
  simp only [Bool.and_eq_true, decide_eq_true_eq] at h
  exact h.1
theorem kwF_b (tb : Nat → Int) (n e : Nat) : -1 ≤ kwF tb n e ∧ kwF tb n e ≤ 2 ∧ (kwF tb n e ≠ -1 → tkK tb n e = 1) := by
  unfold kwF
  by_cases c1 : isW tb n e [111, 110, 101] = true
  · rw [if_pos c1]; exact ⟨by omega, by omega, fun _ => isW_k c1⟩
  · rw [if_neg c1]
    by_cases c2 : isW tb n e [109, 97, 121, 98, 101] = true
    · rw [if_pos c2]; exact ⟨by omega, by omega, fun _ => isW_k c2⟩
    · rw [if_neg c2]
      by_cases c3 : isW tb n e [109, 97, 110, 121] = true
      · rw [if_pos c3]; exact ⟨by omega, by omega, fun _ => isW_k c3⟩
      · rw [if_neg c3]; exact ⟨by omega, by omega, fun h => absurd rfl h⟩
theorem swF_b (tb : Nat → Int) (n e : Nat) : -1 ≤ swF tb n e ∧ swF tb n e ≤ 6 ∧ (swF tb n e ≠ -1 → tkK tb n e = 1) := by
  unfold swF
  refine ⟨?_, ?_, ?_⟩
  · repeat' split
    all_goals omega
  · repeat' split
    all_goals omega
  · intro h
    by_cases c : tkK tb n e = 1
    · exact c
    · exfalso
      have q : ∀ W, ¬ isW tb n e W = true := fun W w => c (isW_k w)
      rw [if_neg (q _), if_neg (q _), if_neg (q _), if_neg (q _), if_neg (q _), if_neg (q _), if_neg (q _)] at h
      exact h rfl
/-- what stands in a number token is digits -/
theorem tk_dig (tb : Nat → Int) {n e : Nat} (h : tkK tb n e = 2) (hb : ∀ i, 0 ≤ tb i ∧ tb i ≤ 255) : ∀ i, tkB tb n e ≤ i → i < tkE tb n e → dgT tb i = true := by
  unfold tkK at h
  by_cases c1 : n ≤ tkB tb n e
  · rw [if_pos c1] at h; omega
  · rw [if_neg c1] at h
    by_cases c2 : ltT tb (tkB tb n e) = true
    · rw [if_pos c2] at h; omega
    · rw [if_neg c2] at h
      by_cases c3 : dgT tb (tkB tb n e) = true
      · intro i h1 h2
        unfold tkE at h2
        rw [if_neg c1, if_neg c2, if_pos c3] at h2
        by_cases q : i = tkB tb n e
        · rw [q]; exact c3
        · exact skF_in (dgT tb) (n - (tkB tb n e + 1)) (tkB tb n e + 1) i (by omega) h2
      · rw [if_neg c3] at h
        exfalso
        split at h
        · rename_i q
          have := of_decide_eq_true q
          omega
        · omega
theorem nmS_b (tb : Nat → Int) {n e : Nat} (h : nfS tb n e = 0) (hb : ∀ i, 0 ≤ tb i ∧ tb i ≤ 255) : 0 ≤ nmS tb n e ∧ nmS tb n e ≤ 999 ∧ rnF tb (tkE tb n e - tkB tb n e) (tkB tb n e) 0 = nmS tb n e ∧ tkK tb n e = 2 ∧ tkE tb n e - tkB tb n e ≤ 3 := by
  unfold nfS at h
  by_cases c : tkK tb n e = 2
  · rw [if_pos c] at h
    have h2 : tkE tb n e - tkB tb n e ≤ 3 := by
      by_cases q : tkE tb n e - tkB tb n e ≤ 3
      · exact q
      · rw [if_neg q] at h; omega
    have h3 := nm_rn tb h2 (fun i q1 q2 => tk_dig tb c hb i q1 (by omega))
    exact ⟨h3.2.1, h3.2.2, h3.1, c, h2⟩
  · rw [if_neg c] at h; omega
section
variable {M : Mem} {tb : Nat → Int} {n e : Nat}
theorem sLen_e {r : Nat} {W : List Int32} (h : sBy r = W) : sLen r = i32 (W.length : Int) := by
  unfold sLen
  rw [h, i32_ofNat]
theorem tIn_e {r : Nat} {W : List Int32} (h : sBy r = W) (ht : isT r = true) {j : Nat} (hj : j < W.length) (hw : W.length ≤ 10) : (tIn r (i32 j) = true) = True := by
  unfold tIn
  rw [h, ht]
  simp only [Bool.true_and]
  exact inB_i (by omega) (by omega) (by omega) (by omega)
theorem sAt_e {r : Nat} {W : List Int32} (h : sBy r = W) {j : Nat} (hj : j ≤ 10) : sAt r (i32 j) = W.getD j 0 := by
  unfold sAt
  rw [h, i32_nat (by omega) (by omega), Int.toNat_natCast]
theorem X9_isWord (hL : CLay M) (hT : TXc M tb n) (hk : CTk M tb n e) (he : e ≤ n) {r : Nat} {W : List Int32} (hr : isT r = true) (hW : sBy r = W) (hw : W.length ≤ 10) : f_X9_isWord 2 r M = some (if isW tb n e W = true then i32 1 else i32 0, M) := by
  obtain ⟨t1, t2, t3, t4⟩ := hT
  obtain ⟨k1, k2, k3⟩ := hk
  have hb := tk_b tb he
  have kb := tkK_b tb t4 n e
  have el := sLen_e hW
  have H : ∀ (k j m : Nat), j + k = W.length → k < m → tkB tb n e + W.length ≤ n → f_X9_isWord_23 m 2 r (i32 j) M = some (if wdF tb (tkB tb n e) W k j = true then i32 1 else i32 0, M) := by
    intro k
    induction k with
    | zero =>
      intro j m hj hm hx
      obtain ⟨m, rfl⟩ : ∃ q, m = q + 1 := ⟨m - 1, by omega⟩
      simp (disch := omega) only [↓reduceIte, add_i0, cast_add1, cast_sub1, toNat120, i32_lit, i32_neg, i32_add, i32_sub, i32_mul, i32_nat, i32_le, i32_lt, i32_eq, inB_i, Int.toNat_natCast, mI_sI_eq, mI_sI_ne, mR_sR_eq, mR_sR_ne, mI_sR, mR_sI, mK_sI, mN_sI, mn_sI, mJ_sI, mK_sR, mN_sR, mn_sR, mJ_sR, mI_wI, mR_wI, mK_wI, mN_wI, mn_wI, mJ_wI, ↓bnd_of, ↓bndX_r, ↓bndX_l, ↓ap_nr, bnd_of, bndX_r, bndX_l, if_true, if_false, ite_true, ite_false, not_true_eq_false, not_false_eq_true, Nat.reduceAdd, Nat.reduceMul, Nat.reduceEqDiff, Int.reduceToNat, Int.reduceNeg, Ilt_t, Ilt_f, Ile_t, Ile_f, Ieq_t, Ieq_f, Nlt_t, Nlt_f, Nle_t, Nle_f, Neq_t, Neq_f, or_true, true_or, or_false, false_or, and_true, true_and, and_false, false_and, ne_eq, or_self, and_self, decide_true, decide_false, Bool.false_eq_true, f_X9_isWord_23, hr, el, wdF]
    | succ k ih =>
      intro j m hj hm hx
      obtain ⟨m, rfl⟩ : ∃ q, m = q + 1 := ⟨m - 1, by omega⟩
      have e1 := tIn_e hW hr (show j < W.length by omega) hw
      have e2 := sAt_e hW (show j ≤ 10 by omega)
      have e3 := t2 (tkB tb n e + j) (by omega)
      have e4 := ih (j + 1) m (by omega) (by omega) hx
      unfold wdF
      by_cases c : i32 (tb (tkB tb n e + j)) = W.getD j 0
      · rw [if_pos c, ← e4]
        simp (disch := omega) only [↓reduceIte, add_i0, cast_add1, cast_sub1, toNat120, i32_lit, i32_neg, i32_add, i32_sub, i32_mul, i32_nat, i32_le, i32_lt, i32_eq, inB_i, Int.toNat_natCast, mI_sI_eq, mI_sI_ne, mR_sR_eq, mR_sR_ne, mI_sR, mR_sI, mK_sI, mN_sI, mn_sI, mJ_sI, mK_sR, mN_sR, mn_sR, mJ_sR, mI_wI, mR_wI, mK_wI, mN_wI, mn_wI, mJ_wI, ↓bnd_of, ↓bndX_r, ↓bndX_l, ↓ap_nr, bnd_of, bndX_r, bndX_l, if_true, if_false, ite_true, ite_false, not_true_eq_false, not_false_eq_true, Nat.reduceAdd, Nat.reduceMul, Nat.reduceEqDiff, Int.reduceToNat, Int.reduceNeg, Ilt_t, Ilt_f, Ile_t, Ile_f, Ieq_t, Ieq_f, Nlt_t, Nlt_f, Nle_t, Nle_f, Neq_t, Neq_f, or_true, true_or, or_false, false_or, and_true, true_and, and_false, false_and, ne_eq, or_self, and_self, decide_true, decide_false, Bool.false_eq_true, f_X9_isWord_23, hr, el, hL.o, k2, toNatA, e1, e2, e3, c]
      · rw [if_neg c]
        simp (disch := omega) only [↓reduceIte, add_i0, cast_add1, cast_sub1, toNat120, i32_lit, i32_neg, i32_add, i32_sub, i32_mul, i32_nat, i32_le, i32_lt, i32_eq, inB_i, Int.toNat_natCast, mI_sI_eq, mI_sI_ne, mR_sR_eq, mR_sR_ne, mI_sR, mR_sI, mK_sI, mN_sI, mn_sI, mJ_sI, mK_sR, mN_sR, mn_sR, mJ_sR, mI_wI, mR_wI, mK_wI, mN_wI, mn_wI, mJ_wI, ↓bnd_of, ↓bndX_r, ↓bndX_l, ↓ap_nr, bnd_of, bndX_r, bndX_l, if_true, if_false, ite_true, ite_false, not_true_eq_false, not_false_eq_true, Nat.reduceAdd, Nat.reduceMul, Nat.reduceEqDiff, Int.reduceToNat, Int.reduceNeg, Ilt_t, Ilt_f, Ile_t, Ile_f, Ieq_t, Ieq_f, Nlt_t, Nlt_f, Nle_t, Nle_f, Neq_t, Neq_f, or_true, true_or, or_false, false_or, and_true, true_and, and_false, false_and, ne_eq, or_self, and_self, decide_true, decide_false, Bool.false_eq_true, f_X9_isWord_23, hr, el, hL.o, k2, toNatA, e1, e2, e3]
        exact if_neg c
  unfold isW
  by_cases c1 : tkK tb n e = 1
  · by_cases c2 : W.length = tkE tb n e - tkB tb n e
    · have h := H W.length 0 FUEL (by omega) (by unfold FUEL; omega) (by omega)
      have h : f_X9_isWord_23 FUEL 2 r (0 : Int32) M = _ := h
      rw [c1] at k1
      simp only [c1, ← c2, decide_true, Bool.true_and]
      rw [← h]
      simp (disch := omega) only [↓reduceIte, add_i0, cast_add1, cast_sub1, toNat120, i32_lit, i32_neg, i32_add, i32_sub, i32_mul, i32_nat, i32_le, i32_lt, i32_eq, inB_i, Int.toNat_natCast, mI_sI_eq, mI_sI_ne, mR_sR_eq, mR_sR_ne, mI_sR, mR_sI, mK_sI, mN_sI, mn_sI, mJ_sI, mK_sR, mN_sR, mn_sR, mJ_sR, mI_wI, mR_wI, mK_wI, mN_wI, mn_wI, mJ_wI, ↓bnd_of, ↓bndX_r, ↓bndX_l, ↓ap_nr, bnd_of, bndX_r, bndX_l, if_true, if_false, ite_true, ite_false, not_true_eq_false, not_false_eq_true, Nat.reduceAdd, Nat.reduceMul, Nat.reduceEqDiff, Int.reduceToNat, Int.reduceNeg, Ilt_t, Ilt_f, Ile_t, Ile_f, Ieq_t, Ieq_f, Nlt_t, Nlt_f, Nle_t, Nle_f, Neq_t, Neq_f, or_true, true_or, or_false, false_or, and_true, true_and, and_false, false_and, ne_eq, or_self, and_self, decide_true, decide_false, Bool.false_eq_true, f_X9_isWord, f_X9_width, hL.o, k1, k2, k3, hr, el]
    · rw [c1] at k1
      simp only [c1, c2, decide_true, decide_false, Bool.true_and, Bool.false_and, Bool.false_eq_true, if_false]
      simp (disch := omega) only [↓reduceIte, add_i0, cast_add1, cast_sub1, toNat120, i32_lit, i32_neg, i32_add, i32_sub, i32_mul, i32_nat, i32_le, i32_lt, i32_eq, inB_i, Int.toNat_natCast, mI_sI_eq, mI_sI_ne, mR_sR_eq, mR_sR_ne, mI_sR, mR_sI, mK_sI, mN_sI, mn_sI, mJ_sI, mK_sR, mN_sR, mn_sR, mJ_sR, mI_wI, mR_wI, mK_wI, mN_wI, mn_wI, mJ_wI, ↓bnd_of, ↓bndX_r, ↓bndX_l, ↓ap_nr, bnd_of, bndX_r, bndX_l, if_true, if_false, ite_true, ite_false, not_true_eq_false, not_false_eq_true, Nat.reduceAdd, Nat.reduceMul, Nat.reduceEqDiff, Int.reduceToNat, Int.reduceNeg, Ilt_t, Ilt_f, Ile_t, Ile_f, Ieq_t, Ieq_f, Nlt_t, Nlt_f, Nle_t, Nle_f, Neq_t, Neq_f, or_true, true_or, or_false, false_or, and_true, true_and, and_false, false_and, ne_eq, or_self, and_self, decide_true, decide_false, Bool.false_eq_true, f_X9_isWord, f_X9_width, hL.o, k1, k2, k3, hr, el]
  · simp only [c1, decide_false, Bool.false_and, Bool.false_eq_true, if_false]
    simp (disch := omega) only [↓reduceIte, add_i0, cast_add1, cast_sub1, toNat120, i32_lit, i32_neg, i32_add, i32_sub, i32_mul, i32_nat, i32_le, i32_lt, i32_eq, inB_i, Int.toNat_natCast, mI_sI_eq, mI_sI_ne, mR_sR_eq, mR_sR_ne, mI_sR, mR_sI, mK_sI, mN_sI, mn_sI, mJ_sI, mK_sR, mN_sR, mn_sR, mJ_sR, mI_wI, mR_wI, mK_wI, mN_wI, mn_wI, mJ_wI, ↓bnd_of, ↓bndX_r, ↓bndX_l, ↓ap_nr, bnd_of, bndX_r, bndX_l, if_true, if_false, ite_true, ite_false, not_true_eq_false, not_false_eq_true, Nat.reduceAdd, Nat.reduceMul, Nat.reduceEqDiff, Int.reduceToNat, Int.reduceNeg, Ilt_t, Ilt_f, Ile_t, Ile_f, Ieq_t, Ieq_f, Nlt_t, Nlt_f, Nle_t, Nle_f, Neq_t, Neq_f, or_true, true_or, or_false, false_or, and_true, true_and, and_false, false_and, ne_eq, or_self, and_self, decide_true, decide_false, Bool.false_eq_true, f_X9_isWord, hL.o, k1]
theorem X12_is (hL : RLay M) (hT : TXr M tb n) (hk : RTk M tb n e) (he : e ≤ n) (hbad : mI M 134 12 = i32 0) {r : Nat} {W : List Int32} (hr : isT r = true) (hW : sBy r = W) (hw : W.length ≤ 10) : f_X12_is 134 r M = some (if isW tb n e W = true then i32 1 else i32 0, M) := by
  obtain ⟨t1, t2, t3, t4⟩ := hT
  obtain ⟨k1, k2, k3, k4, k5⟩ := hk
  have hb := tk_b tb he
  have kb := tkK_b tb t4 n e
  have el := sLen_e hW
  have z1 : zB (i32 1) = true := by decide
  have z0 : zB (i32 0) = true := by decide
  have F0 : ∀ (m : Nat) (j : Int32), f_X12_is_39 (m + 1) 134 r (i32 0) j M = some (i32 0, M) := by
    intro m j
    simp (disch := omega) only [↓reduceIte, add_i0, cast_add1, cast_sub1, toNat120, i32_lit, i32_neg, i32_add, i32_sub, i32_mul, i32_nat, i32_le, i32_lt, i32_eq, inB_i, Int.toNat_natCast, mI_sI_eq, mI_sI_ne, mR_sR_eq, mR_sR_ne, mI_sR, mR_sI, mK_sI, mN_sI, mn_sI, mJ_sI, mK_sR, mN_sR, mn_sR, mJ_sR, mI_wI, mR_wI, mK_wI, mN_wI, mn_wI, mJ_wI, ↓bnd_of, ↓bndX_r, ↓bndX_l, ↓ap_nr, bnd_of, bndX_r, bndX_l, if_true, if_false, ite_true, ite_false, not_true_eq_false, not_false_eq_true, Nat.reduceAdd, Nat.reduceMul, Nat.reduceEqDiff, Int.reduceToNat, Int.reduceNeg, Ilt_t, Ilt_f, Ile_t, Ile_f, Ieq_t, Ieq_f, Nlt_t, Nlt_f, Nle_t, Nle_f, Neq_t, Neq_f, or_true, true_or, or_false, false_or, and_true, true_and, and_false, false_and, ne_eq, or_self, and_self, decide_true, decide_false, Bool.false_eq_true, f_X12_is_39, z0]
  have H : ∀ (k j m : Nat), j + k = W.length → k < m → tkB tb n e + W.length ≤ n → f_X12_is_39 (m + 1) 134 r (i32 1) (i32 j) M = some (if wdF tb (tkB tb n e) W k j = true then i32 1 else i32 0, M) := by
    intro k
    induction k with
    | zero =>
      intro j m hj hm hx
      simp (disch := omega) only [↓reduceIte, add_i0, cast_add1, cast_sub1, toNat120, i32_lit, i32_neg, i32_add, i32_sub, i32_mul, i32_nat, i32_le, i32_lt, i32_eq, inB_i, Int.toNat_natCast, mI_sI_eq, mI_sI_ne, mR_sR_eq, mR_sR_ne, mI_sR, mR_sI, mK_sI, mN_sI, mn_sI, mJ_sI, mK_sR, mN_sR, mn_sR, mJ_sR, mI_wI, mR_wI, mK_wI, mN_wI, mn_wI, mJ_wI, ↓bnd_of, ↓bndX_r, ↓bndX_l, ↓ap_nr, bnd_of, bndX_r, bndX_l, if_true, if_false, ite_true, ite_false, not_true_eq_false, not_false_eq_true, Nat.reduceAdd, Nat.reduceMul, Nat.reduceEqDiff, Int.reduceToNat, Int.reduceNeg, Ilt_t, Ilt_f, Ile_t, Ile_f, Ieq_t, Ieq_f, Nlt_t, Nlt_f, Nle_t, Nle_f, Neq_t, Neq_f, or_true, true_or, or_false, false_or, and_true, true_and, and_false, false_and, ne_eq, or_self, and_self, decide_true, decide_false, Bool.false_eq_true, f_X12_is_39, hr, el, wdF, z1]
    | succ k ih =>
      intro j m hj hm hx
      obtain ⟨m, rfl⟩ : ∃ q, m = q + 1 := ⟨m - 1, by omega⟩
      have e1 := tIn_e hW hr (show j < W.length by omega) hw
      have e2 := sAt_e hW (show j ≤ 10 by omega)
      have e3 := t2 (tkB tb n e + j) (by omega)
      have e4 := ih (j + 1) m (by omega) (by omega) hx
      have e5 := F0 m
      unfold wdF
      by_cases c : i32 (tb (tkB tb n e + j)) = W.getD j 0
      · rw [if_pos c, ← e4]
        conv => lhs; unfold f_X12_is_39
        simp (disch := omega) only [↓reduceIte, add_i0, cast_add1, cast_sub1, toNat120, i32_lit, i32_neg, i32_add, i32_sub, i32_mul, i32_nat, i32_le, i32_lt, i32_eq, inB_i, Int.toNat_natCast, mI_sI_eq, mI_sI_ne, mR_sR_eq, mR_sR_ne, mI_sR, mR_sI, mK_sI, mN_sI, mn_sI, mJ_sI, mK_sR, mN_sR, mn_sR, mJ_sR, mI_wI, mR_wI, mK_wI, mN_wI, mn_wI, mJ_wI, ↓bnd_of, ↓bndX_r, ↓bndX_l, ↓ap_nr, bnd_of, bndX_r, bndX_l, if_true, if_false, ite_true, ite_false, not_true_eq_false, not_false_eq_true, Nat.reduceAdd, Nat.reduceMul, Nat.reduceEqDiff, Int.reduceToNat, Int.reduceNeg, Ilt_t, Ilt_f, Ile_t, Ile_f, Ieq_t, Ieq_f, Nlt_t, Nlt_f, Nle_t, Nle_f, Neq_t, Neq_f, or_true, true_or, or_false, false_or, and_true, true_and, and_false, false_and, ne_eq, or_self, and_self, decide_true, decide_false, Bool.false_eq_true, f_X12_is_75, hr, el, hL.o, k2, toNatA, e1, e2, e3, c]
      · rw [if_neg c]
        have c' : ¬ (W.getD j 0 = i32 (tb (tkB tb n e + j))) := fun q => c q.symm
        conv => lhs; unfold f_X12_is_39
        simp (disch := omega) only [↓reduceIte, add_i0, cast_add1, cast_sub1, toNat120, i32_lit, i32_neg, i32_add, i32_sub, i32_mul, i32_nat, i32_le, i32_lt, i32_eq, inB_i, Int.toNat_natCast, mI_sI_eq, mI_sI_ne, mR_sR_eq, mR_sR_ne, mI_sR, mR_sI, mK_sI, mN_sI, mn_sI, mJ_sI, mK_sR, mN_sR, mn_sR, mJ_sR, mI_wI, mR_wI, mK_wI, mN_wI, mn_wI, mJ_wI, ↓bnd_of, ↓bndX_r, ↓bndX_l, ↓ap_nr, bnd_of, bndX_r, bndX_l, if_true, if_false, ite_true, ite_false, not_true_eq_false, not_false_eq_true, Nat.reduceAdd, Nat.reduceMul, Nat.reduceEqDiff, Int.reduceToNat, Int.reduceNeg, Ilt_t, Ilt_f, Ile_t, Ile_f, Ieq_t, Ieq_f, Nlt_t, Nlt_f, Nle_t, Nle_f, Neq_t, Neq_f, or_true, true_or, or_false, false_or, and_true, true_and, and_false, false_and, ne_eq, or_self, and_self, decide_true, decide_false, Bool.false_eq_true, f_X12_is_75, hr, el, hL.o, k2, toNatA, e1, e2, e3, e5]
        exact if_neg c'
  obtain ⟨fu, hfu⟩ : ∃ fu, FUEL = fu + 1 := ⟨FUEL - 1, by unfold FUEL; omega⟩
  have hfb : 10 < fu := by have : FUEL = 1000000 := rfl; omega
  unfold isW
  by_cases c1 : tkK tb n e = 1
  · have c1r := kb.2.2.2.2.2.2.1.mp c1
    by_cases c2 : W.length = tkE tb n e - tkB tb n e
    · have h := H W.length 0 fu (by omega) (by omega) (by omega)
      rw [c1r] at k1
      simp only [c1, ← c2, decide_true, Bool.true_and]
      rw [← h]
      simp (disch := omega) only [↓reduceIte, add_i0, cast_add1, cast_sub1, toNat120, i32_lit, i32_neg, i32_add, i32_sub, i32_mul, i32_nat, i32_le, i32_lt, i32_eq, inB_i, Int.toNat_natCast, mI_sI_eq, mI_sI_ne, mR_sR_eq, mR_sR_ne, mI_sR, mR_sI, mK_sI, mN_sI, mn_sI, mJ_sI, mK_sR, mN_sR, mn_sR, mJ_sR, mI_wI, mR_wI, mK_wI, mN_wI, mn_wI, mJ_wI, ↓bnd_of, ↓bndX_r, ↓bndX_l, ↓ap_nr, bnd_of, bndX_r, bndX_l, if_true, if_false, ite_true, ite_false, not_true_eq_false, not_false_eq_true, Nat.reduceAdd, Nat.reduceMul, Nat.reduceEqDiff, Int.reduceToNat, Int.reduceNeg, Ilt_t, Ilt_f, Ile_t, Ile_f, Ieq_t, Ieq_f, Nlt_t, Nlt_f, Nle_t, Nle_f, Neq_t, Neq_f, or_true, true_or, or_false, false_or, and_true, true_and, and_false, false_and, ne_eq, or_self, and_self, decide_true, decide_false, Bool.false_eq_true, f_X12_is, f_X12_is_36, hfu, hL.o, hbad, k1, k2, k3, hr, el]
      rfl
    · have h := F0 fu (i32 0)
      rw [c1r] at k1
      simp only [c1, c2, decide_true, decide_false, Bool.true_and, Bool.false_and, Bool.false_eq_true, if_false]
      simp (disch := omega) only [↓reduceIte, add_i0, cast_add1, cast_sub1, toNat120, i32_lit, i32_neg, i32_add, i32_sub, i32_mul, i32_nat, i32_le, i32_lt, i32_eq, inB_i, Int.toNat_natCast, mI_sI_eq, mI_sI_ne, mR_sR_eq, mR_sR_ne, mI_sR, mR_sI, mK_sI, mN_sI, mn_sI, mJ_sI, mK_sR, mN_sR, mn_sR, mJ_sR, mI_wI, mR_wI, mK_wI, mN_wI, mn_wI, mJ_wI, ↓bnd_of, ↓bndX_r, ↓bndX_l, ↓ap_nr, bnd_of, bndX_r, bndX_l, if_true, if_false, ite_true, ite_false, not_true_eq_false, not_false_eq_true, Nat.reduceAdd, Nat.reduceMul, Nat.reduceEqDiff, Int.reduceToNat, Int.reduceNeg, Ilt_t, Ilt_f, Ile_t, Ile_f, Ieq_t, Ieq_f, Nlt_t, Nlt_f, Nle_t, Nle_f, Neq_t, Neq_f, or_true, true_or, or_false, false_or, and_true, true_and, and_false, false_and, ne_eq, or_self, and_self, decide_true, decide_false, Bool.false_eq_true, f_X12_is, f_X12_is_35, f_X12_is_36, hfu, hL.o, hbad, k1, k2, k3, hr, el, h]
  · have c1r : ¬ rkK tb n e = 1 := fun q => c1 (kb.2.2.2.2.2.2.1.mpr q)
    have h := F0 fu (i32 0)
    simp only [c1, decide_false, Bool.false_and, Bool.false_eq_true, if_false]
    simp (disch := omega) only [↓reduceIte, add_i0, cast_add1, cast_sub1, toNat120, i32_lit, i32_neg, i32_add, i32_sub, i32_mul, i32_nat, i32_le, i32_lt, i32_eq, inB_i, Int.toNat_natCast, mI_sI_eq, mI_sI_ne, mR_sR_eq, mR_sR_ne, mI_sR, mR_sI, mK_sI, mN_sI, mn_sI, mJ_sI, mK_sR, mN_sR, mn_sR, mJ_sR, mI_wI, mR_wI, mK_wI, mN_wI, mn_wI, mJ_wI, ↓bnd_of, ↓bndX_r, ↓bndX_l, ↓ap_nr, bnd_of, bndX_r, bndX_l, if_true, if_false, ite_true, ite_false, not_true_eq_false, not_false_eq_true, Nat.reduceAdd, Nat.reduceMul, Nat.reduceEqDiff, Int.reduceToNat, Int.reduceNeg, Ilt_t, Ilt_f, Ile_t, Ile_f, Ieq_t, Ieq_f, Nlt_t, Nlt_f, Nle_t, Nle_f, Neq_t, Neq_f, or_true, true_or, or_false, false_or, and_true, true_and, and_false, false_and, ne_eq, or_self, and_self, decide_true, decide_false, Bool.false_eq_true, f_X12_is, f_X12_is_35, f_X12_is_36, hfu, hL.o, hbad, k1, h]
theorem X3_kindTold (hL : CLay M) (hT : TXc M tb n) (hk : CTk M tb n e) (he : e ≤ n) : f_X3_kindTold 2 M = some (i32 (swF tb n e), M) := by
  have w := fun (r : Nat) (W : List Int32) h1 h2 h3 => X9_isWord hL hT hk he (r := r) (W := W) h1 h2 h3
  have w3 := w 1000003 [112, 108, 117, 115] rfl rfl (by decide)
  have w4 := w 1000004 [116, 105, 109, 101, 115] rfl rfl (by decide)
  have w5 := w 1000005 [109, 111, 100] rfl rfl (by decide)
  have w6 := w 1000006 [108, 101, 115, 115] rfl rfl (by decide)
  have w7 := w 1000007 [109, 111, 114, 101] rfl rfl (by decide)
  have w8 := w 1000008 [102, 105, 114, 115, 116] rfl rfl (by decide)
  have w9 := w 1000009 [103, 97, 112] rfl rfl (by decide)
  have k2 : mK M 2 = 10 := by simp only [hL.o]
  have n1 : ¬ (i32 1 = (0 : Int32)) := by decide
  have y0 : i32 0 = (0 : Int32) := rfl
  unfold swF f_X3_kindTold
  rw [if_pos k2, bx w3]
  by_cases c3 : isW tb n e [112, 108, 117, 115] = true
  · simp only [c3, if_true, n1, if_false]; rfl
  · simp only [c3, if_false, y0, if_true, k2]
    rw [bx w4]
    by_cases c4 : isW tb n e [116, 105, 109, 101, 115] = true
    · simp only [c4, if_true, n1, if_false]; rfl
    · simp only [c4, if_false, y0, if_true, k2]
      rw [bx w5]
      by_cases c5 : isW tb n e [109, 111, 100] = true
      · simp only [c5, if_true, n1, if_false]; rfl
      · simp only [c5, if_false, y0, if_true, k2]
        rw [bx w6]
        by_cases c6 : isW tb n e [108, 101, 115, 115] = true
        · simp only [c6, if_true, n1, if_false]; rfl
        · simp only [c6, if_false, y0, if_true, k2]
          rw [bx w7]
          by_cases c7 : isW tb n e [109, 111, 114, 101] = true
          · simp only [c7, if_true, n1, if_false]; rfl
          · simp only [c7, if_false, y0, if_true, k2]
            rw [bx w8]
            by_cases c8 : isW tb n e [102, 105, 114, 115, 116] = true
            · simp only [c8, if_true, n1, if_false]; rfl
            · simp only [c8, if_false, y0, if_true, k2]
              rw [bx w9]
              by_cases c9 : isW tb n e [103, 97, 112] = true
              · simp only [c9, if_true, n1, if_false]; rfl
              · simp only [c9, if_false, y0, if_true]; rfl
theorem X6_kindTold (hL : CLay M) (h40 : mR M 4 0 = 2) (hT : TXc M tb n) (hk : CTk M tb n e) (he : e ≤ n) : f_X6_kindTold 4 M = some (i32 (kwF tb n e), M) := by
  have w := fun (r : Nat) (W : List Int32) h1 h2 h3 => X9_isWord hL hT hk he (r := r) (W := W) h1 h2 h3
  have w3 := w 1000000 [111, 110, 101] rfl rfl (by decide)
  have w4 := w 1000001 [109, 97, 121, 98, 101] rfl rfl (by decide)
  have w5 := w 1000002 [109, 97, 110, 121] rfl rfl (by decide)
  have k2 : mK M 2 = 10 := by simp only [hL.o]
  have k4 : mK M 4 = 7 := by simp only [hL.o]
  have n1 : ¬ (i32 1 = (0 : Int32)) := by decide
  have y0 : i32 0 = (0 : Int32) := rfl
  unfold kwF f_X6_kindTold
  rw [if_pos k4, h40, if_pos k2, bx w3]
  by_cases c3 : isW tb n e [111, 110, 101] = true
  · simp only [c3, if_true, n1, if_false]; rfl
  · simp only [c3, if_false, y0, if_true, k2, k4, h40]
    rw [bx w4]
    by_cases c4 : isW tb n e [109, 97, 121, 98, 101] = true
    · simp only [c4, if_true, n1, if_false]; rfl
    · simp only [c4, if_false, y0, if_true, k2, k4, h40]
      rw [bx w5]
      by_cases c5 : isW tb n e [109, 97, 110, 121] = true
      · simp only [c5, if_true, n1, if_false]; rfl
      · simp only [c5, if_false, y0, if_true]; rfl
/-- one word of a row of words -/
theorem X12_which1 (hL : RLay M) {a : Nat} (hK : mK M a = 26) {c : Nat} (hN : mN M a = c) (hc : c ≤ 10) {j : Nat} (hj : j < c) {r : Nat} (hr : mR M a j = r) {x : Bool} (ew : f_X12_is 134 r M = some (if x = true then i32 1 else i32 0, M)) (m : Nat) : f_X12_which_2 (m + 1) 134 a (i32 j) M = if x = true then some (i32 j, M) else f_X12_which_2 m 134 a (i32 ((j + 1 : Nat) : Int)) M := by
  by_cases c1 : x = true
  · rw [if_pos c1] at ew ⊢
    simp (disch := omega) only [↓reduceIte, add_i0, cast_add1, cast_sub1, toNat120, i32_lit, i32_neg, i32_add, i32_sub, i32_mul, i32_nat, i32_le, i32_lt, i32_eq, inB_i, Int.toNat_natCast, mI_sI_eq, mI_sI_ne, mR_sR_eq, mR_sR_ne, mI_sR, mR_sI, mK_sI, mN_sI, mn_sI, mJ_sI, mK_sR, mN_sR, mn_sR, mJ_sR, mI_wI, mR_wI, mK_wI, mN_wI, mn_wI, mJ_wI, ↓bnd_of, ↓bndX_r, ↓bndX_l, ↓ap_nr, bnd_of, bndX_r, bndX_l, if_true, if_false, ite_true, ite_false, not_true_eq_false, not_false_eq_true, Nat.reduceAdd, Nat.reduceMul, Nat.reduceEqDiff, Int.reduceToNat, Int.reduceNeg, Ilt_t, Ilt_f, Ile_t, Ile_f, Ieq_t, Ieq_f, Nlt_t, Nlt_f, Nle_t, Nle_f, Neq_t, Neq_f, or_true, true_or, or_false, false_or, and_true, true_and, and_false, false_and, ne_eq, or_self, and_self, decide_true, decide_false, Bool.false_eq_true, f_X12_which_2, hK, hN, i32_ofNat, hL.o, hr, ↓bx ew]
  · rw [if_neg c1] at ew ⊢
    simp (disch := omega) only [↓reduceIte, add_i0, cast_add1, cast_sub1, toNat120, i32_lit, i32_neg, i32_add, i32_sub, i32_mul, i32_nat, i32_le, i32_lt, i32_eq, inB_i, Int.toNat_natCast, mI_sI_eq, mI_sI_ne, mR_sR_eq, mR_sR_ne, mI_sR, mR_sI, mK_sI, mN_sI, mn_sI, mJ_sI, mK_sR, mN_sR, mn_sR, mJ_sR, mI_wI, mR_wI, mK_wI, mN_wI, mn_wI, mJ_wI, ↓bnd_of, ↓bndX_r, ↓bndX_l, ↓ap_nr, bnd_of, bndX_r, bndX_l, if_true, if_false, ite_true, ite_false, not_true_eq_false, not_false_eq_true, Nat.reduceAdd, Nat.reduceMul, Nat.reduceEqDiff, Int.reduceToNat, Int.reduceNeg, Ilt_t, Ilt_f, Ile_t, Ile_f, Ieq_t, Ieq_f, Nlt_t, Nlt_f, Nle_t, Nle_f, Neq_t, Neq_f, or_true, true_or, or_false, false_or, and_true, true_and, and_false, false_and, ne_eq, or_self, and_self, decide_true, decide_false, Bool.false_eq_true, f_X12_which_2, hK, hN, i32_ofNat, hL.o, hr, ↓bx ew]
theorem X12_whichE {a : Nat} (hK : mK M a = 26) {c : Nat} (hN : mN M a = c) (hc : c ≤ 10) (m : Nat) : f_X12_which_2 (m + 1) 134 a (i32 c) M = some (i32 (-1), M) := by
  simp (disch := omega) only [↓reduceIte, add_i0, cast_add1, cast_sub1, toNat120, i32_lit, i32_neg, i32_add, i32_sub, i32_mul, i32_nat, i32_le, i32_lt, i32_eq, inB_i, Int.toNat_natCast, mI_sI_eq, mI_sI_ne, mR_sR_eq, mR_sR_ne, mI_sR, mR_sI, mK_sI, mN_sI, mn_sI, mJ_sI, mK_sR, mN_sR, mn_sR, mJ_sR, mI_wI, mR_wI, mK_wI, mN_wI, mn_wI, mJ_wI, ↓bnd_of, ↓bndX_r, ↓bndX_l, ↓ap_nr, bnd_of, bndX_r, bndX_l, if_true, if_false, ite_true, ite_false, not_true_eq_false, not_false_eq_true, Nat.reduceAdd, Nat.reduceMul, Nat.reduceEqDiff, Int.reduceToNat, Int.reduceNeg, Ilt_t, Ilt_f, Ile_t, Ile_f, Ieq_t, Ieq_f, Nlt_t, Nlt_f, Nle_t, Nle_f, Neq_t, Neq_f, or_true, true_or, or_false, false_or, and_true, true_and, and_false, false_and, ne_eq, or_self, and_self, decide_true, decide_false, Bool.false_eq_true, f_X12_which_2, hK, hN, i32_ofNat]
theorem X12_whichK (hL : RLay M) (hT : TXr M tb n) (hk : RTk M tb n e) (he : e ≤ n) (hbad : mI M 134 12 = i32 0) : f_X12_which 134 135 M = some (i32 (kwF tb n e), M) := by
  have w := fun (r : Nat) (W : List Int32) h1 h2 h3 => X12_is hL hT hk he hbad (r := r) (W := W) h1 h2 h3
  have k : mK M 135 = 26 := by simp only [hL.o]
  have q : mN M 135 = 3 := by simp only [hL.o]
  obtain ⟨fu, hfu⟩ : ∃ fu, FUEL = fu + 4 := ⟨FUEL - 4, by unfold FUEL; omega⟩
  have e0 := X12_which1 hL k q (by omega) (j := 0) (by omega) (r := 1000010) (by simp only [hL.o]) (w 1000010 [111, 110, 101] rfl rfl (by decide)) (fu + 3)
  have e1 := X12_which1 hL k q (by omega) (j := 1) (by omega) (r := 1000011) (by simp only [hL.o]) (w 1000011 [109, 97, 121, 98, 101] rfl rfl (by decide)) (fu + 2)
  have e2 := X12_which1 hL k q (by omega) (j := 2) (by omega) (r := 1000012) (by simp only [hL.o]) (w 1000012 [109, 97, 110, 121] rfl rfl (by decide)) (fu + 1)
  have e3 := X12_whichE k q (by omega) fu
  unfold f_X12_which kwF
  rw [hfu]
  have e0 : f_X12_which_2 (fu + 4) 134 135 (0 : Int32) M = _ := e0
  rw [e0, e1, e2, e3]
  by_cases c3 : isW tb n e [111, 110, 101] = true
  · simp only [c3, if_true]; rfl
  · simp only [c3, if_false, Bool.false_eq_true]
    by_cases c4 : isW tb n e [109, 97, 121, 98, 101] = true
    · simp only [c4, if_true]; rfl
    · simp only [c4, if_false, Bool.false_eq_true]
      by_cases c5 : isW tb n e [109, 97, 110, 121] = true
      · simp only [c5, if_true]; rfl
      · simp only [c5, if_false, Bool.false_eq_true]
theorem X12_whichS (hL : RLay M) (hT : TXr M tb n) (hk : RTk M tb n e) (he : e ≤ n) (hbad : mI M 134 12 = i32 0) : f_X12_which 134 136 M = some (i32 (swF tb n e), M) := by
  have w := fun (r : Nat) (W : List Int32) h1 h2 h3 => X12_is hL hT hk he hbad (r := r) (W := W) h1 h2 h3
  have k : mK M 136 = 26 := by simp only [hL.o]
  have q : mN M 136 = 7 := by simp only [hL.o]
  obtain ⟨fu, hfu⟩ : ∃ fu, FUEL = fu + 8 := ⟨FUEL - 8, by unfold FUEL; omega⟩
  have e0 := X12_which1 hL k q (by omega) (j := 0) (by omega) (r := 1000013) (by simp only [hL.o]) (w 1000013 [112, 108, 117, 115] rfl rfl (by decide)) (fu + 7)
  have e1 := X12_which1 hL k q (by omega) (j := 1) (by omega) (r := 1000014) (by simp only [hL.o]) (w 1000014 [116, 105, 109, 101, 115] rfl rfl (by decide)) (fu + 6)
  have e2 := X12_which1 hL k q (by omega) (j := 2) (by omega) (r := 1000015) (by simp only [hL.o]) (w 1000015 [109, 111, 100] rfl rfl (by decide)) (fu + 5)
  have e3 := X12_which1 hL k q (by omega) (j := 3) (by omega) (r := 1000016) (by simp only [hL.o]) (w 1000016 [108, 101, 115, 115] rfl rfl (by decide)) (fu + 4)
  have e4 := X12_which1 hL k q (by omega) (j := 4) (by omega) (r := 1000017) (by simp only [hL.o]) (w 1000017 [109, 111, 114, 101] rfl rfl (by decide)) (fu + 3)
  have e5 := X12_which1 hL k q (by omega) (j := 5) (by omega) (r := 1000018) (by simp only [hL.o]) (w 1000018 [102, 105, 114, 115, 116] rfl rfl (by decide)) (fu + 2)
  have e6 := X12_which1 hL k q (by omega) (j := 6) (by omega) (r := 1000019) (by simp only [hL.o]) (w 1000019 [103, 97, 112] rfl rfl (by decide)) (fu + 1)
  have e7 := X12_whichE k q (by omega) fu
  unfold f_X12_which swF
  rw [hfu]
  have e0 : f_X12_which_2 (fu + 8) 134 136 (0 : Int32) M = _ := e0
  rw [e0, e1, e2, e3, e4, e5, e6, e7]
  by_cases c3 : isW tb n e [112, 108, 117, 115] = true
  · simp only [c3, if_true]; rfl
  · simp only [c3, if_false, Bool.false_eq_true]
    by_cases c4 : isW tb n e [116, 105, 109, 101, 115] = true
    · simp only [c4, if_true]; rfl
    · simp only [c4, if_false, Bool.false_eq_true]
      by_cases c5 : isW tb n e [109, 111, 100] = true
      · simp only [c5, if_true]; rfl
      · simp only [c5, if_false, Bool.false_eq_true]
        by_cases c6 : isW tb n e [108, 101, 115, 115] = true
        · simp only [c6, if_true]; rfl
        · simp only [c6, if_false, Bool.false_eq_true]
          by_cases c7 : isW tb n e [109, 111, 114, 101] = true
          · simp only [c7, if_true]; rfl
          · simp only [c7, if_false, Bool.false_eq_true]
            by_cases c8 : isW tb n e [102, 105, 114, 115, 116] = true
            · simp only [c8, if_true]; rfl
            · simp only [c8, if_false, Bool.false_eq_true]
              by_cases c9 : isW tb n e [103, 97, 112] = true
              · simp only [c9, if_true]; rfl
              · simp only [c9, if_false, Bool.false_eq_true]
theorem X9_numberFault (hL : CLay M) (hT : TXc M tb n) (hk : CTk M tb n e) (he : e ≤ n) : f_X9_numberFault 2 M = some (i32 (nfS tb n e), M) := by
  obtain ⟨t1, t2, t3, t4⟩ := hT
  obtain ⟨k1, k2, k3⟩ := hk
  have hb := tk_b tb he
  have kb := tkK_b tb t4 n e
  unfold nfS
  by_cases c : tkK tb n e = 2
  · rw [if_pos c]
    rw [c] at k1
    by_cases c2 : tkE tb n e - tkB tb n e ≤ 3
    · rw [if_pos c2]
      simp (disch := omega) only [↓reduceIte, add_i0, cast_add1, cast_sub1, toNat120, i32_lit, i32_neg, i32_add, i32_sub, i32_mul, i32_nat, i32_le, i32_lt, i32_eq, inB_i, Int.toNat_natCast, mI_sI_eq, mI_sI_ne, mR_sR_eq, mR_sR_ne, mI_sR, mR_sI, mK_sI, mN_sI, mn_sI, mJ_sI, mK_sR, mN_sR, mn_sR, mJ_sR, mI_wI, mR_wI, mK_wI, mN_wI, mn_wI, mJ_wI, ↓bnd_of, ↓bndX_r, ↓bndX_l, ↓ap_nr, bnd_of, bndX_r, bndX_l, if_true, if_false, ite_true, ite_false, not_true_eq_false, not_false_eq_true, Nat.reduceAdd, Nat.reduceMul, Nat.reduceEqDiff, Int.reduceToNat, Int.reduceNeg, Ilt_t, Ilt_f, Ile_t, Ile_f, Ieq_t, Ieq_f, Nlt_t, Nlt_f, Nle_t, Nle_f, Neq_t, Neq_f, or_true, true_or, or_false, false_or, and_true, true_and, and_false, false_and, ne_eq, or_self, and_self, decide_true, decide_false, Bool.false_eq_true, f_X9_numberFault, f_X9_width, hL.o, k1, k2, k3]
    · rw [if_neg c2]
      simp (disch := omega) only [↓reduceIte, add_i0, cast_add1, cast_sub1, toNat120, i32_lit, i32_neg, i32_add, i32_sub, i32_mul, i32_nat, i32_le, i32_lt, i32_eq, inB_i, Int.toNat_natCast, mI_sI_eq, mI_sI_ne, mR_sR_eq, mR_sR_ne, mI_sR, mR_sI, mK_sI, mN_sI, mn_sI, mJ_sI, mK_sR, mN_sR, mn_sR, mJ_sR, mI_wI, mR_wI, mK_wI, mN_wI, mn_wI, mJ_wI, ↓bnd_of, ↓bndX_r, ↓bndX_l, ↓ap_nr, bnd_of, bndX_r, bndX_l, if_true, if_false, ite_true, ite_false, not_true_eq_false, not_false_eq_true, Nat.reduceAdd, Nat.reduceMul, Nat.reduceEqDiff, Int.reduceToNat, Int.reduceNeg, Ilt_t, Ilt_f, Ile_t, Ile_f, Ieq_t, Ieq_f, Nlt_t, Nlt_f, Nle_t, Nle_f, Neq_t, Neq_f, or_true, true_or, or_false, false_or, and_true, true_and, and_false, false_and, ne_eq, or_self, and_self, decide_true, decide_false, Bool.false_eq_true, f_X9_numberFault, f_X9_width, hL.o, k1, k2, k3]
  · rw [if_neg c]
    simp (disch := omega) only [↓reduceIte, add_i0, cast_add1, cast_sub1, toNat120, i32_lit, i32_neg, i32_add, i32_sub, i32_mul, i32_nat, i32_le, i32_lt, i32_eq, inB_i, Int.toNat_natCast, mI_sI_eq, mI_sI_ne, mR_sR_eq, mR_sR_ne, mI_sR, mR_sI, mK_sI, mN_sI, mn_sI, mJ_sI, mK_sR, mN_sR, mn_sR, mJ_sR, mI_wI, mR_wI, mK_wI, mN_wI, mn_wI, mJ_wI, ↓bnd_of, ↓bndX_r, ↓bndX_l, ↓ap_nr, bnd_of, bndX_r, bndX_l, if_true, if_false, ite_true, ite_false, not_true_eq_false, not_false_eq_true, Nat.reduceAdd, Nat.reduceMul, Nat.reduceEqDiff, Int.reduceToNat, Int.reduceNeg, Ilt_t, Ilt_f, Ile_t, Ile_f, Ieq_t, Ieq_f, Nlt_t, Nlt_f, Nle_t, Nle_f, Neq_t, Neq_f, or_true, true_or, or_false, false_or, and_true, true_and, and_false, false_and, ne_eq, or_self, and_self, decide_true, decide_false, Bool.false_eq_true, f_X9_numberFault, hL.o, k1]
theorem X9_number (hL : CLay M) (hT : TXc M tb n) (hk : CTk M tb n e) (he : e ≤ n) (hf : nfS tb n e = 0) : f_X9_number 2 M = some (i32 (nmS tb n e), M) := by
  have hnb := nmS_b tb hf hT.2.2.2
  obtain ⟨t1, t2, t3, t4⟩ := hT
  obtain ⟨k1, k2, k3⟩ := hk
  have hb := tk_b tb he
  have H : ∀ (k j m : Nat) (a : Int), j + k = tkE tb n e → k < m → tkB tb n e ≤ j → f_X9_number_7 m 2 (i32 a) (i32 j) M = some (i32 (nmF tb k j a), M) := by
    intro k
    induction k with
    | zero =>
      intro j m a hj hm hx
      obtain ⟨m, rfl⟩ : ∃ q, m = q + 1 := ⟨m - 1, by omega⟩
      simp (disch := omega) only [↓reduceIte, add_i0, cast_add1, cast_sub1, toNat120, i32_lit, i32_neg, i32_add, i32_sub, i32_mul, i32_nat, i32_le, i32_lt, i32_eq, inB_i, Int.toNat_natCast, mI_sI_eq, mI_sI_ne, mR_sR_eq, mR_sR_ne, mI_sR, mR_sI, mK_sI, mN_sI, mn_sI, mJ_sI, mK_sR, mN_sR, mn_sR, mJ_sR, mI_wI, mR_wI, mK_wI, mN_wI, mn_wI, mJ_wI, ↓bnd_of, ↓bndX_r, ↓bndX_l, ↓ap_nr, bnd_of, bndX_r, bndX_l, if_true, if_false, ite_true, ite_false, not_true_eq_false, not_false_eq_true, Nat.reduceAdd, Nat.reduceMul, Nat.reduceEqDiff, Int.reduceToNat, Int.reduceNeg, Ilt_t, Ilt_f, Ile_t, Ile_f, Ieq_t, Ieq_f, Nlt_t, Nlt_f, Nle_t, Nle_f, Neq_t, Neq_f, or_true, true_or, or_false, false_or, and_true, true_and, and_false, false_and, ne_eq, or_self, and_self, decide_true, decide_false, Bool.false_eq_true, f_X9_number_7, hL.o, k3, nmF]
    | succ k ih =>
      intro j m a hj hm hx
      obtain ⟨m, rfl⟩ : ∃ q, m = q + 1 := ⟨m - 1, by omega⟩
      have e3 := t2 j (by omega)
      unfold nmF
      rw [← ih (j + 1) m _ (by omega) (by omega) (by omega)]
      simp (disch := omega) only [↓reduceIte, add_i0, cast_add1, cast_sub1, toNat120, i32_lit, i32_neg, i32_add, i32_sub, i32_mul, i32_nat, i32_le, i32_lt, i32_eq, inB_i, Int.toNat_natCast, mI_sI_eq, mI_sI_ne, mR_sR_eq, mR_sR_ne, mI_sR, mR_sI, mK_sI, mN_sI, mn_sI, mJ_sI, mK_sR, mN_sR, mn_sR, mJ_sR, mI_wI, mR_wI, mK_wI, mN_wI, mn_wI, mJ_wI, ↓bnd_of, ↓bndX_r, ↓bndX_l, ↓ap_nr, bnd_of, bndX_r, bndX_l, if_true, if_false, ite_true, ite_false, not_true_eq_false, not_false_eq_true, Nat.reduceAdd, Nat.reduceMul, Nat.reduceEqDiff, Int.reduceToNat, Int.reduceNeg, Ilt_t, Ilt_f, Ile_t, Ile_f, Ieq_t, Ieq_f, Nlt_t, Nlt_f, Nle_t, Nle_f, Neq_t, Neq_f, or_true, true_or, or_false, false_or, and_true, true_and, and_false, false_and, ne_eq, or_self, and_self, decide_true, decide_false, Bool.false_eq_true, f_X9_number_7, hL.o, k2, k3, e3]
  have h := H (tkE tb n e - tkB tb n e) (tkB tb n e) FUEL 0 (by omega) (by unfold FUEL; omega) (Nat.le_refl _)
  unfold nmS
  rw [← h]
  simp (disch := omega) only [↓reduceIte, add_i0, cast_add1, cast_sub1, toNat120, i32_lit, i32_neg, i32_add, i32_sub, i32_mul, i32_nat, i32_le, i32_lt, i32_eq, inB_i, Int.toNat_natCast, mI_sI_eq, mI_sI_ne, mR_sR_eq, mR_sR_ne, mI_sR, mR_sI, mK_sI, mN_sI, mn_sI, mJ_sI, mK_sR, mN_sR, mn_sR, mJ_sR, mI_wI, mR_wI, mK_wI, mN_wI, mn_wI, mJ_wI, ↓bnd_of, ↓bndX_r, ↓bndX_l, ↓ap_nr, bnd_of, bndX_r, bndX_l, if_true, if_false, ite_true, ite_false, not_true_eq_false, not_false_eq_true, Nat.reduceAdd, Nat.reduceMul, Nat.reduceEqDiff, Int.reduceToNat, Int.reduceNeg, Ilt_t, Ilt_f, Ile_t, Ile_f, Ieq_t, Ieq_f, Nlt_t, Nlt_f, Nle_t, Nle_f, Neq_t, Neq_f, or_true, true_or, or_false, false_or, and_true, true_and, and_false, false_and, ne_eq, or_self, and_self, decide_true, decide_false, Bool.false_eq_true, f_X9_number, hL.o, k2]
end
