/-! drop, undo: the cut of the last record on both sides; undo in the reference -/
/-- the first k leaves are cut, the record is still told -/
def cutJ (B : St) (k : Nat) : St := (B.rp, B.df, B.vl, fun l => if l < k then lastS B l else B.sz l, B.rc)
theorem cutJ_lt {B : St} {k l : Nat} (h : l < k) : (cutJ B k).sz l = lastS B l := if_pos h
theorem cutJ_ge {B : St} {k l : Nat} (h : k ≤ l) : (cutJ B k).sz l = B.sz l := if_neg (by omega)
theorem cutJ_0 (B : St) : cutJ B 0 = B := by
  have e : (fun l => if l < 0 then lastS B l else B.sz l) = B.sz := funext (fun l => if_neg (by omega))
  unfold cutJ
  rw [e]
  rfl
theorem cutJ_le (B : St) (k l : Nat) : (cutJ B k).sz l ≤ B.sz l := by
  by_cases c : l < k
  · rw [cutJ_lt c]; exact lastS_le B l
  · rw [cutJ_ge (by omega)]; exact Nat.le_refl _
theorem cutJ_ok {B : St} (h : B.ok) (k : Nat) : (cutJ B k).ok := by
  obtain ⟨h1, h2, h3, h4, h5⟩ := h
  exact ⟨h1, h2, h3, fun l => Nat.le_trans (cutJ_le B k l) (h4 l), h5⟩
theorem cutS_ok {B : St} (h : B.ok) (nl : Nat) : (cutS nl B).ok := by
  obtain ⟨h1, h2, h3, h4, h5⟩ := cutJ_ok h nl
  exact ⟨h1, h2, h3, h4, by show B.rc - 1 ≤ 30; have : B.rc ≤ 30 := h5; omega⟩
theorem cutJ_last {B : St} {k l : Nat} (h : k ≤ l) : lastS (cutJ B k) l = lastS B l := by
  unfold lastS
  rw [cutJ_ge h]
  rfl
theorem firstR_last {B : St} (h : 1 ≤ B.rc) (l : Nat) : firstR B l ((B.rc : Int) - 1) = lastS B l := by
  have := firstFrom_b (B.rp l) ((B.rc : Int) - 1) (B.sz l) 0 0
  unfold firstR lastS
  by_cases c : firstFrom (B.rp l) ((B.rc : Int) - 1) (B.sz l) 0 0 = -1
  · rw [if_pos c, if_pos c]
  · rw [if_neg c, if_neg c]
    omega
section
variable {M : Mem} {S : Sc} {A : St} {fu : Nat → Int}
theorem X7_lastFirst (hL : CLay M) (hc : ColLay M 21) (hA : CC M 21 fu A) (hr : mI M 18 1 = i32 A.rc) (h1 : 1 ≤ A.rc) {l : Nat} (hl : l < 8) : f_X7_lastFirst 18 (i32 l) M = some (i32 (lastS A l), M) := by
  have hrc := hA.1.2.2.2.2
  have e1 := X2_firstOf hc hA hl ((A.rc : Int) - 1) (by omega) (by omega)
  have hb := firstFrom_b (A.rp l) ((A.rc : Int) - 1) (A.sz l) 0 0
  have hz := hA.1.2.2.2.1 l
  have es := hA.2.1 l hl
  have ht := hL.tel
  have hca := hc.at21 hl
  have nl := nat_i (k := l) (by omega)
  have in8 : inB (i32 (l : Int)) 8 = true := by clear hca ht; simp (disch := omega) only [↓reduceIte, add_i0, cast_add1, cast_sub1, toNat120, i32_lit, i32_neg, i32_add, i32_sub, i32_mul, i32_nat, i32_le, i32_lt, i32_eq, inB_i, Int.toNat_natCast, mI_sI_eq, mI_sI_ne, mR_sR_eq, mR_sR_ne, mI_sR, mR_sI, mK_sI, mN_sI, mn_sI, mJ_sI, mK_sR, mN_sR, mn_sR, mJ_sR, mI_wI, mR_wI, mK_wI, mN_wI, mn_wI, mJ_wI, ↓bnd_of, ↓bndX_r, ↓bndX_l, ↓ap_nr, bnd_of, bndX_r, bndX_l, if_true, if_false, ite_true, ite_false, not_true_eq_false, not_false_eq_true, Nat.reduceAdd, Nat.reduceMul, Nat.reduceEqDiff, Int.reduceToNat, Int.reduceNeg, Ilt_t, Ilt_f, Ile_t, Ile_f, Ieq_t, Ieq_f, Nlt_t, Nlt_f, Nle_t, Nle_f, Neq_t, Neq_f, or_true, true_or, or_false, false_or, and_true, true_and, and_false, false_and, ne_eq, or_self, and_self, decide_true, decide_false, Bool.false_eq_true]
  have er : i32 (A.rc : Int) - (1 : Int32) = i32 ((A.rc : Int) - 1) := by rw [i32_lit, i32_sub]
  unfold f_X7_lastFirst lastS
  rw [if_pos ht.o.2.2.2.2.1, ht.o.2.2.2.2.2.1, if_pos ht.o.2.2.2.2.2.2.1, ht.o.2.2.2.2.2.2.2, if_pos in8, nl, hca.o.2.2.2.2.2.2.2.2.2.2, if_pos hca.o.1, hr, er, bx e1]
  by_cases c : firstFrom (A.rp l) ((A.rc : Int) - 1) (A.sz l) 0 0 = -1
  · rw [if_pos (by rw [c]; rfl), if_pos ht.o.2.2.2.2.1, ht.o.2.2.2.2.2.1, if_pos ht.o.2.2.2.2.2.2.1, ht.o.2.2.2.2.2.2.2, if_pos in8, hca.o.2.2.2.2.2.2.2.2.2.2, if_pos hca.o.1, es, if_pos c]
  · have ne : ¬ (i32 (firstFrom (A.rp l) ((A.rc : Int) - 1) (A.sz l) 0 0) = i32 (-1)) := i32_ne (by omega) (by omega) (by omega) (by omega) c
    rw [if_neg (by exact ne), if_neg c]
    congr 2
    congr 1
    omega
/-- the sizes are written -/
theorem CC.cut {k : Nat} (h : CC M 21 fu (cutJ A k)) (hA : A.ok) (hk : k < 8) : CC (sI M (21 + 4 * k) 3 (i32 (lastS A k))) 21 fu (cutJ A (k + 1)) := by
  obtain ⟨a0, a1, a2, a3, a4, a5, a6⟩ := h
  have le : ∀ l, (cutJ A (k + 1)).sz l ≤ (cutJ A k).sz l := fun l => by
    by_cases c : l = k
    · subst c
      rw [cutJ_lt (by omega), cutJ_ge (by omega)]
      exact lastS_le A l
    · by_cases d : l < k
      · rw [cutJ_lt (by omega), cutJ_lt d]; exact Nat.le_refl _
      · rw [cutJ_ge (by omega), cutJ_ge (by omega)]; exact Nat.le_refl _
  refine ⟨cutJ_ok hA _, fun l q => ?_, fun l j q r => ?_, fun l j q r => ?_, fun l j q r => ?_, fun l q => ?_, a6⟩
  · by_cases c : l = k
    · subst c
      rw [mI_sI_eq, cutJ_lt (by omega)]
    · rw [mI_sI_ne (by omega), a1 l q]
      by_cases d : l < k
      · rw [cutJ_lt d, cutJ_lt (by omega)]
      · rw [cutJ_ge (by omega), cutJ_ge (by omega)]
  · rw [mI_sI_ne (by omega)]; exact a2 l j q (by have := le l; omega)
  · rw [mI_sI_ne (by omega)]; exact a3 l j q (by have := le l; omega)
  · rw [mI_sI_ne (by omega)]; exact a4 l j q (by have := le l; omega)
  · rw [mI_sI_ne (by omega)]; exact a5 l q
def ctI (a j : Nat) : Prop := (a = 18 ∧ j = 1) ∨ (21 ≤ a ∧ a ≤ 52 ∧ j = 3)
theorem X7_cut2 (hA : A.ok) (h1 : 1 ≤ A.rc) {nl : Nat} (hnl : nl ≤ 8) : ∀ (k j m : Nat) (M : Mem), j + k = nl → k < m → CLay M → ColLay M 21 → CC M 21 fu (cutJ A j) → mI M 18 1 = i32 A.rc → ∃ M', f_X7_cutLastRecord_2 m 18 (i32 nl) (i32 j) M = some ((), M') ∧ Chg ctI M M' ∧ CC M' 21 fu (cutS nl A) ∧ mI M' 18 1 = i32 ((A.rc - 1 : Nat) : Int) := by
  intro k
  induction k with
  | zero =>
    intro j m M hj hm hL hc hC hr
    obtain ⟨m, rfl⟩ : ∃ q, m = q + 1 := ⟨m - 1, by omega⟩
    obtain rfl : j = nl := by omega
    have k18 := hL.tel.o.2.2.2.2.1
    have er : i32 (A.rc : Int) - (1 : Int32) = i32 ((A.rc - 1 : Nat) : Int) := by rw [i32_lit, i32_sub, show (A.rc : Int) - 1 = ((A.rc - 1 : Nat) : Int) by omega]
    refine ⟨sI M 18 1 (i32 ((A.rc - 1 : Nat) : Int)), ?_, (Chg.rf _ M).sI (by unfold ctI; omega), ?_, mI_sI_eq⟩
    · unfold f_X7_cutLastRecord_2
      rw [if_pos (by simp (disch := omega) only [↓reduceIte, add_i0, cast_add1, cast_sub1, toNat120, i32_lit, i32_neg, i32_add, i32_sub, i32_mul, i32_nat, i32_le, i32_lt, i32_eq, inB_i, Int.toNat_natCast, mI_sI_eq, mI_sI_ne, mR_sR_eq, mR_sR_ne, mI_sR, mR_sI, mK_sI, mN_sI, mn_sI, mJ_sI, mK_sR, mN_sR, mn_sR, mJ_sR, mI_wI, mR_wI, mK_wI, mN_wI, mn_wI, mJ_wI, ↓bnd_of, ↓bndX_r, ↓bndX_l, ↓ap_nr, bnd_of, bndX_r, bndX_l, if_true, if_false, ite_true, ite_false, not_true_eq_false, not_false_eq_true, Nat.reduceAdd, Nat.reduceMul, Nat.reduceEqDiff, Int.reduceToNat, Int.reduceNeg, Ilt_t, Ilt_f, Ile_t, Ile_f, Ieq_t, Ieq_f, Nlt_t, Nlt_f, Nle_t, Nle_f, Neq_t, Neq_f, or_true, true_or, or_false, false_or, and_true, true_and, and_false, false_and, ne_eq, or_self, and_self, decide_true, decide_false, Bool.false_eq_true]), if_pos k18, hr, er, ap_of]
    · obtain ⟨a0, a1, a2, a3, a4, a5, a6⟩ := hC
      refine ⟨cutS_ok hA j, fun l q => ?_, fun l i q r => ?_, fun l i q r => ?_, fun l i q r => ?_, fun l q => ?_, a6⟩
      · rw [mI_sI_ne (by omega)]; exact a1 l q
      · rw [mI_sI_ne (by omega)]; exact a2 l i q r
      · rw [mI_sI_ne (by omega)]; exact a3 l i q r
      · rw [mI_sI_ne (by omega)]; exact a4 l i q r
      · rw [mI_sI_ne (by omega)]; exact a5 l q
  | succ k ih =>
    intro j m M hj hm hL hc hC hr
    obtain ⟨m, rfl⟩ : ∃ q, m = q + 1 := ⟨m - 1, by omega⟩
    have hj8 : j < 8 := by omega
    have e1 : f_X7_lastFirst 18 (i32 j) M = some (i32 (lastS A j), M) := by
      have := X7_lastFirst hL hc hC hr h1 hj8
      rw [cutJ_last (Nat.le_refl j)] at this
      exact this
    have g : Chg ctI M (sI M (21 + 4 * j) 3 (i32 (lastS A j))) := (Chg.rf _ M).sI (by unfold ctI; omega)
    obtain ⟨M', e2, g2, q1, q2⟩ := ih (j + 1) m (sI M (21 + 4 * j) 3 (i32 (lastS A j))) (by omega) (by omega) (hL.all g) (hc.all g) (hC.cut hA hj8) (by rw [mI_sI_ne (by omega)]; exact hr)
    refine ⟨M', ?_, g.tr g2, q1, q2⟩
    rw [← e2]
    have ht := hL.tel
    have hca := hc.at21 hj8
    have nl' := nat_i (k := j) (by omega)
    have in8 : inB (i32 (j : Int)) 8 = true := by clear hca ht; simp (disch := omega) only [↓reduceIte, add_i0, cast_add1, cast_sub1, toNat120, i32_lit, i32_neg, i32_add, i32_sub, i32_mul, i32_nat, i32_le, i32_lt, i32_eq, inB_i, Int.toNat_natCast, mI_sI_eq, mI_sI_ne, mR_sR_eq, mR_sR_ne, mI_sR, mR_sI, mK_sI, mN_sI, mn_sI, mJ_sI, mK_sR, mN_sR, mn_sR, mJ_sR, mI_wI, mR_wI, mK_wI, mN_wI, mn_wI, mJ_wI, ↓bnd_of, ↓bndX_r, ↓bndX_l, ↓ap_nr, bnd_of, bndX_r, bndX_l, if_true, if_false, ite_true, ite_false, not_true_eq_false, not_false_eq_true, Nat.reduceAdd, Nat.reduceMul, Nat.reduceEqDiff, Int.reduceToNat, Int.reduceNeg, Ilt_t, Ilt_f, Ile_t, Ile_f, Ieq_t, Ieq_f, Nlt_t, Nlt_f, Nle_t, Nle_f, Neq_t, Neq_f, or_true, true_or, or_false, false_or, and_true, true_and, and_false, false_and, ne_eq, or_self, and_self, decide_true, decide_false, Bool.false_eq_true]
    have lt : ¬ (i32 (nl : Int) ≤ i32 (j : Int)) := by clear hca ht; simp (disch := omega) only [↓reduceIte, add_i0, cast_add1, cast_sub1, toNat120, i32_lit, i32_neg, i32_add, i32_sub, i32_mul, i32_nat, i32_le, i32_lt, i32_eq, inB_i, Int.toNat_natCast, mI_sI_eq, mI_sI_ne, mR_sR_eq, mR_sR_ne, mI_sR, mR_sI, mK_sI, mN_sI, mn_sI, mJ_sI, mK_sR, mN_sR, mn_sR, mJ_sR, mI_wI, mR_wI, mK_wI, mN_wI, mn_wI, mJ_wI, ↓bnd_of, ↓bndX_r, ↓bndX_l, ↓ap_nr, bnd_of, bndX_r, bndX_l, if_true, if_false, ite_true, ite_false, not_true_eq_false, not_false_eq_true, Nat.reduceAdd, Nat.reduceMul, Nat.reduceEqDiff, Int.reduceToNat, Int.reduceNeg, Ilt_t, Ilt_f, Ile_t, Ile_f, Ieq_t, Ieq_f, Nlt_t, Nlt_f, Nle_t, Nle_f, Neq_t, Neq_f, or_true, true_or, or_false, false_or, and_true, true_and, and_false, false_and, ne_eq, or_self, and_self, decide_true, decide_false, Bool.false_eq_true]
    conv => lhs; unfold f_X7_cutLastRecord_2
    rw [if_neg lt, if_pos ht.o.2.2.2.2.1, ht.o.2.2.2.2.2.1, if_pos ht.o.2.2.2.2.2.2.1, ht.o.2.2.2.2.2.2.2, if_pos in8, bx e1, nl', hca.o.2.2.2.2.2.2.2.2.2.2, if_pos hca.o.1, ap_of, k_add1]
theorem X7_cut (hL : CLay M) (hc : ColLay M 21) (hC : CC M 21 fu A) (hr : mI M 18 1 = i32 A.rc) (h1 : 1 ≤ A.rc) {nl : Nat} (hnl : nl ≤ 8) : ∃ M', f_X7_cutLastRecord 18 (i32 nl) M = some ((), M') ∧ Chg ctI M M' ∧ CC M' 21 fu (cutS nl A) ∧ mI M' 18 1 = i32 ((A.rc - 1 : Nat) : Int) := X7_cut2 hC.1 h1 hnl nl 0 FUEL M (by omega) (by unfold FUEL; omega) hL hc (by rw [cutJ_0]; exact hC) hr
def dpR (a j : Nat) : Prop := (a = 134 ∧ j = 30) ∨ a = 151
theorem X12_drop30 (hA : A.ok) (h1 : 1 ≤ A.rc) {nl : Nat} (hnl : nl ≤ 8) : ∀ (k j m : Nat) (M : Mem), j + k = nl → k < m → RLay M → mI M 148 0 = i32 nl → RE M (cutJ A j) → ∃ M', f_X12_drop_30 m 134 (i32 j) M = some (i32 ((A.rc - 1 : Nat) : Int), M') ∧ Chg dpR M M' ∧ RE M' (cutS nl A) := by
  intro k
  induction k with
  | zero =>
    intro j m M hj hm hL h0 hE
    obtain ⟨m, rfl⟩ : ∃ q, m = q + 1 := ⟨m - 1, by omega⟩
    obtain rfl : j = nl := by omega
    have r24 : mR M 134 24 = 148 := by simp only [hL.o]
    have k24 : mK M 148 = 21 := by simp only [hL.o]
    have n24 : inB (0 : Int32) (mN M 148) = true := by
      have : mN M 148 = 3 := by simp only [hL.o]
      rw [this]; decide
    have er : i32 (A.rc : Int) - (1 : Int32) = i32 ((A.rc - 1 : Nat) : Int) := by rw [i32_lit, i32_sub, show (A.rc : Int) - 1 = ((A.rc - 1 : Nat) : Int) by omega]
    have c0 : (0 : Int32).toNatClampNeg = 0 := by decide
    obtain ⟨a0, a1, a2, a3⟩ := hE
    have a3 : mI M 134 30 = i32 (A.rc : Int) := a3
    refine ⟨sI M 134 30 (i32 ((A.rc - 1 : Nat) : Int)), ?_, (Chg.rf _ M).sI (by unfold dpR; omega), cutS_ok hA j, fun l q => ?_, fun l i q r => ?_, mI_sI_eq⟩
    · unfold f_X12_drop_30
      rw [if_pos hL.k, r24, if_pos k24, if_pos n24, c0, h0, if_pos (by simp (disch := omega) only [↓reduceIte, add_i0, cast_add1, cast_sub1, toNat120, i32_lit, i32_neg, i32_add, i32_sub, i32_mul, i32_nat, i32_le, i32_lt, i32_eq, inB_i, Int.toNat_natCast, mI_sI_eq, mI_sI_ne, mR_sR_eq, mR_sR_ne, mI_sR, mR_sI, mK_sI, mN_sI, mn_sI, mJ_sI, mK_sR, mN_sR, mn_sR, mJ_sR, mI_wI, mR_wI, mK_wI, mN_wI, mn_wI, mJ_wI, ↓bnd_of, ↓bndX_r, ↓bndX_l, ↓ap_nr, bnd_of, bndX_r, bndX_l, if_true, if_false, ite_true, ite_false, not_true_eq_false, not_false_eq_true, Nat.reduceAdd, Nat.reduceMul, Nat.reduceEqDiff, Int.reduceToNat, Int.reduceNeg, Ilt_t, Ilt_f, Ile_t, Ile_f, Ieq_t, Ieq_f, Nlt_t, Nlt_f, Nle_t, Nle_f, Neq_t, Neq_f, or_true, true_or, or_false, false_or, and_true, true_and, and_false, false_and, ne_eq, or_self, and_self, decide_true, decide_false, Bool.false_eq_true]), a3, er, ap_of, if_pos (by exact hL.k), mI_sI_eq]
    · rw [mI_sI_ne (by omega)]; exact a1 l q
    · rw [mI_sI_ne (by omega)]; exact a2 l i q r
  | succ k ih =>
    intro j m M hj hm hL h0 hE
    obtain ⟨m, rfl⟩ : ∃ q, m = q + 1 := ⟨m - 1, by omega⟩
    have hj8 : j < 8 := by omega
    have r24 : mR M 134 24 = 148 := by simp only [hL.o]
    have k24 : mK M 148 = 21 := by simp only [hL.o]
    have n24 : inB (0 : Int32) (mN M 148) = true := by
      have : mN M 148 = 3 := by simp only [hL.o]
      rw [this]; decide
    have r28 : mR M 134 28 = 151 := by simp only [hL.o]
    have k28 : mK M 151 = 21 := by simp only [hL.o]
    have n28 : mN M 151 = 8 := by simp only [hL.o]
    have er : i32 (A.rc : Int) - (1 : Int32) = i32 ((A.rc : Int) - 1) := by rw [i32_lit, i32_sub]
    have c0 : (0 : Int32).toNatClampNeg = 0 := by decide
    have a3 : mI M 134 30 = i32 (A.rc : Int) := hE.2.2.2
    have hrc := hA.2.2.2.2
    have e1 : f_X12_firstOf 134 (i32 j) (i32 ((A.rc : Int) - 1)) M = some (i32 (lastS A j), M) := by
      have q1 := X12_firstOf hL hE hj8 ((A.rc : Int) - 1) (by omega) (by omega)
      have q2 : firstR (cutJ A j) j ((A.rc : Int) - 1) = lastS (cutJ A j) j := firstR_last (B := cutJ A j) h1 j
      rw [q2, cutJ_last (Nat.le_refl j)] at q1
      exact q1
    have g : Chg dpR M (sI M 151 j (i32 (lastS A j))) := (Chg.rf _ M).sI (by unfold dpR; omega)
    obtain ⟨M', e2, g2, q1⟩ := ih (j + 1) m (sI M 151 j (i32 (lastS A j))) (by omega) (by omega) (hL.all g) (by rw [mI_sI_ne (by omega)]; exact h0) (by
      obtain ⟨a0, a1, a2, a3⟩ := hE
      have le : (cutJ A (j + 1)).sz j ≤ (cutJ A j).sz j := by
        rw [cutJ_lt (by omega), cutJ_ge (by omega)]
        exact lastS_le A j
      have eq : ∀ l, l ≠ j → (cutJ A (j + 1)).sz l = (cutJ A j).sz l := fun l c => by
        by_cases d : l < j
        · rw [cutJ_lt (by omega), cutJ_lt d]
        · rw [cutJ_ge (by omega), cutJ_ge (by omega)]
      refine ⟨cutJ_ok hA _, fun l q => ?_, fun l i q r => ?_, ?_⟩
      · by_cases c : l = j
        · subst c
          rw [mI_sI_eq, cutJ_lt (by omega)]
        · rw [mI_sI_ne (by omega), eq l c]; exact a1 l q
      · rw [mI_sI_ne (by omega)]
        refine a2 l i q ?_
        by_cases c : l = j
        · subst c
          omega
        · rw [← eq l c]; exact r
      · rw [mI_sI_ne (by omega)]; exact a3)
    refine ⟨M', ?_, g.tr g2, q1⟩
    rw [← e2]
    have nl' := nat_i (k := j) (by omega)
    have in8 : inB (i32 (j : Int)) 8 = true := by simp (disch := omega) only [↓reduceIte, add_i0, cast_add1, cast_sub1, toNat120, i32_lit, i32_neg, i32_add, i32_sub, i32_mul, i32_nat, i32_le, i32_lt, i32_eq, inB_i, Int.toNat_natCast, mI_sI_eq, mI_sI_ne, mR_sR_eq, mR_sR_ne, mI_sR, mR_sI, mK_sI, mN_sI, mn_sI, mJ_sI, mK_sR, mN_sR, mn_sR, mJ_sR, mI_wI, mR_wI, mK_wI, mN_wI, mn_wI, mJ_wI, ↓bnd_of, ↓bndX_r, ↓bndX_l, ↓ap_nr, bnd_of, bndX_r, bndX_l, if_true, if_false, ite_true, ite_false, not_true_eq_false, not_false_eq_true, Nat.reduceAdd, Nat.reduceMul, Nat.reduceEqDiff, Int.reduceToNat, Int.reduceNeg, Ilt_t, Ilt_f, Ile_t, Ile_f, Ieq_t, Ieq_f, Nlt_t, Nlt_f, Nle_t, Nle_f, Neq_t, Neq_f, or_true, true_or, or_false, false_or, and_true, true_and, and_false, false_and, ne_eq, or_self, and_self, decide_true, decide_false, Bool.false_eq_true]
    have lt : ¬ (i32 (nl : Int) ≤ i32 (j : Int)) := by simp (disch := omega) only [↓reduceIte, add_i0, cast_add1, cast_sub1, toNat120, i32_lit, i32_neg, i32_add, i32_sub, i32_mul, i32_nat, i32_le, i32_lt, i32_eq, inB_i, Int.toNat_natCast, mI_sI_eq, mI_sI_ne, mR_sR_eq, mR_sR_ne, mI_sR, mR_sI, mK_sI, mN_sI, mn_sI, mJ_sI, mK_sR, mN_sR, mn_sR, mJ_sR, mI_wI, mR_wI, mK_wI, mN_wI, mn_wI, mJ_wI, ↓bnd_of, ↓bndX_r, ↓bndX_l, ↓ap_nr, bnd_of, bndX_r, bndX_l, if_true, if_false, ite_true, ite_false, not_true_eq_false, not_false_eq_true, Nat.reduceAdd, Nat.reduceMul, Nat.reduceEqDiff, Int.reduceToNat, Int.reduceNeg, Ilt_t, Ilt_f, Ile_t, Ile_f, Ieq_t, Ieq_f, Nlt_t, Nlt_f, Nle_t, Nle_f, Neq_t, Neq_f, or_true, true_or, or_false, false_or, and_true, true_and, and_false, false_and, ne_eq, or_self, and_self, decide_true, decide_false, Bool.false_eq_true]
    conv => lhs; unfold f_X12_drop_30
    rw [if_pos hL.k, r24, if_pos k24, if_pos n24, c0, h0, if_neg lt, a3, er, bx e1, r28, if_pos k28, n28, if_pos in8, nl', ap_of, k_add1]
theorem r_undo (hL : RLay M) {n : Nat} {Bs : Nat → St} (hn : n ≤ 40) (h31 : mI M 134 31 = i32 n) (h : ActsR M 152 n Bs) : ∃ r M', f_X12_undo 134 M = some (r, M') ∧ mI M' 134 2 = i32 0 ∧ Chg (fun a j => (a = 134 ∧ (j = 2 ∨ j = 30 ∨ j = 31)) ∨ a = 150 ∨ a = 151) M M' ∧ (if n = 0 then r = i32 (-1) ∧ Chg (fun a j => a = 134 ∧ j = 2) M M' else r = i32 ((n - 1 : Nat) : Int) ∧ RE M' (Bs (n - 1)) ∧ mI M' 134 31 = i32 ((n - 1 : Nat) : Int)) := by
  have g0 : Chg (fun a j => a = 134 ∧ j = 2) M (sI M 134 2 (0 : Int32)) := (Chg.rf _ M).sI ⟨rfl, rfl⟩
  have e2 : mI (sI M 134 2 (0 : Int32)) 134 2 = i32 0 := mI_sI_eq
  unfold f_X12_undo
  rw [if_pos hL.k, ap_of]
  generalize sI M 134 2 (0 : Int32) = M0 at g0 e2 ⊢
  have hL0 := hL.all g0
  have h310 : mI M0 134 31 = i32 n := by rw [g0.i (by omega)]; exact h31
  rw [if_pos hL0.k, h310]
  by_cases c : n = 0
  · subst c
    simp only [if_true]
    refine ⟨i32 (-1), M0, ?_, e2, g0.mono (fun a j q => by omega), rfl, g0⟩
    rw [if_pos (by rfl)]
    rfl
  · simp only [if_neg c]
    have nz : ¬ (i32 (n : Int) = i32 0) := i32_ne (by omega) (by omega) (by omega) (by omega) (by omega)
    have en : i32 (n : Int) - (1 : Int32) = i32 ((n - 1 : Nat) : Int) := by rw [i32_lit, i32_sub, show (n : Int) - 1 = ((n - 1 : Nat) : Int) by omega]
    have g1 : Chg (fun a j => a = 134 ∧ j = 31) M0 (sI M0 134 31 (i32 ((n - 1 : Nat) : Int))) := (Chg.rf _ M0).sI ⟨rfl, rfl⟩
    have h311 : mI (sI M0 134 31 (i32 ((n - 1 : Nat) : Int))) 134 31 = i32 ((n - 1 : Nat) : Int) := mI_sI_eq
    rw [if_neg (by exact nz), en, ap_of]
    generalize sI M0 134 31 (i32 ((n - 1 : Nat) : Int)) = M1 at g1 h311 ⊢
    have hL1 := hL0.all g1
    have k152 : mK M1 152 = 21 := by simp only [hL1.o]
    have n152 : mN M1 152 = 38760 := by simp only [hL1.o]
    have r29 : mR M1 134 29 = 152 := by simp only [hL1.o]
    have e3 : (969 : Int32) * i32 ((n - 1 : Nat) : Int) = i32 ((969 * (n - 1) : Nat) : Int) := by
      rw [i32_lit, i32_mul, show (969 : Int) * ((n - 1 : Nat) : Int) = ((969 * (n - 1) : Nat) : Int) by omega]
    obtain ⟨M2, e4, g2, q1, q2, q3⟩ := X12_unpack (a := 152) (off := 969 * (n - 1)) hL1 (by omega) (by omega) k152 (by rw [n152]; omega) (by omega)
    have hL2 := hL1.all g2
    have row : RRow M1 152 (969 * (n - 1)) (Bs (n - 1)) := (h (n - 1) (by omega)).cg (fun i hi => by rw [g1.i (by omega), g0.i (by omega)])
    have h312 : mI M2 134 31 = i32 ((n - 1 : Nat) : Int) := by rw [g2.i (by unfold upC; omega)]; exact h311
    refine ⟨i32 ((n - 1 : Nat) : Int), M2, ?_, ?_, (g0.mono (fun a j q => by omega)).tr ((g1.mono (fun a j q => by omega)).tr (g2.mono (fun a j q => by unfold upC at q; omega))), rfl, RE.of row q1 q2 q3, h312⟩
    · rw [if_pos hL1.k, r29, h311, e3, bx e4, if_pos hL2.k, h312]
    · rw [g2.i (by unfold upC; omega), g1.i (by omega)]; exact e2
end
