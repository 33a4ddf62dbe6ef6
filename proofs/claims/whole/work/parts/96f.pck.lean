/-! pack, unpack: the reference's rows -/
def pkC (a off b j : Nat) : Prop := b = a ∧ off ≤ j ∧ j < off + 969
def upC (b j : Nat) : Prop := (b = 150 ∧ j < 960) ∨ (b = 151 ∧ j < 8) ∨ (b = 134 ∧ j = 30)
theorem RLay.all {M M' : Mem} {P : Nat → Nat → Prop} (h : RLay M) (g : Chg P M M') : RLay M' := by
  obtain ⟨hK, hN, -, -, hR, -⟩ := g
  unfold RLay RLay' at h ⊢
  simp only [hK, hN, hR]
  exact h
theorem CLay.all {M M' : Mem} {P : Nat → Nat → Prop} (h : CLay M) (g : Chg P M M') : CLay M' := by
  obtain ⟨hK, hN, -, -, hR, -⟩ := g
  unfold CLay CLay' at h ⊢
  simp only [hK, hN, hR]
  exact h
theorem PiLay.all {M M' : Mem} {P : Nat → Nat → Prop} {p : Nat} (h : PiLay M p) (g : Chg P M M') : PiLay M' p := by
  obtain ⟨hK, hN, -, -, hR, -⟩ := g
  unfold PiLay PiLay' at h ⊢
  simp only [hK, hN, hR]
  exact h
theorem ShLay.all {M M' : Mem} {P : Nat → Nat → Prop} {s : Nat} (h : ShLay M s) (g : Chg P M M') : ShLay M' s := by
  obtain ⟨hK, hN, -, -, hR, -⟩ := g
  unfold ShLay ShLay' at h ⊢
  simp only [hK, hN, hR]
  exact h
theorem ColLay.all {M M' : Mem} {P : Nat → Nat → Prop} {b : Nat} (h : ColLay M b) (g : Chg P M M') : ColLay M' b := by
  obtain ⟨hK, hN, -, -, hR, -⟩ := g
  unfold ColLay at h ⊢
  simp only [hK, hN, hR]
  exact h
theorem toNatC (off k : Nat) : ((off : Int) + (960 : Int) + (k : Int)).toNat = off + 960 + k := by omega
theorem toNatD (off : Nat) : ((off : Int) + (960 : Int) + (8 : Int)).toNat = off + 968 := by omega
section
variable {M : Mem}
theorem X12_pack28 {a off : Nat} (ha : 152 ≤ a) (ha2 : a ≤ 162) (hK : mK M a = 21) (hN : off + 969 ≤ mN M a) (ho : off ≤ 100000) : ∀ (k j m : Nat) (M1 : Mem), j + k = 8 → k < m → RLay M1 → Chg (pkC a off) M M1 → (∀ l, l < j → mI M1 a (off + 960 + l) = mI M 151 l) → ∃ M', f_X12_pack_28 m 134 a (i32 off) (i32 j) M1 = some ((), M') ∧ Chg (pkC a off) M M' ∧ (∀ i, i < 960 → mI M' a (off + i) = mI M1 a (off + i)) ∧ (∀ l, l < 8 → mI M' a (off + 960 + l) = mI M 151 l) ∧ mI M' a (off + 968) = mI M 134 30 := by
  intro k
  induction k with
  | zero =>
    intro j m M1 hj hm hL g hp
    obtain ⟨m, rfl⟩ : ∃ q, m = q + 1 := ⟨m - 1, by omega⟩
    have hk := hL.k
    have hK1 : mK M1 a = 21 := by rw [g.1]; exact hK
    have hN1 : mN M1 a = mN M a := by rw [g.2.1]
    have e30 := g.i (a := 134) (j := 30) (by unfold pkC; omega)
    refine ⟨sI M1 a (off + 968) (mI M1 134 30), ?_, g.sI (by unfold pkC; omega), fun i hi => ?_, fun l hl => ?_, ?_⟩
    · simp (disch := omega) only [↓reduceIte, add_i0, cast_add1, cast_sub1, toNat120, i32_lit, i32_neg, i32_add, i32_sub, i32_mul, i32_nat, i32_le, i32_lt, i32_eq, inB_i, Int.toNat_natCast, mI_sI_eq, mI_sI_ne, mR_sR_eq, mR_sR_ne, mI_sR, mR_sI, mK_sI, mN_sI, mn_sI, mJ_sI, mK_sR, mN_sR, mn_sR, mJ_sR, mI_wI, mR_wI, mK_wI, mN_wI, mn_wI, mJ_wI, ↓bnd_of, ↓bndX_r, ↓bndX_l, ↓ap_nr, bnd_of, bndX_r, bndX_l, if_true, if_false, ite_true, ite_false, not_true_eq_false, not_false_eq_true, Nat.reduceAdd, Nat.reduceMul, Nat.reduceEqDiff, Int.reduceToNat, Int.reduceNeg, Ilt_t, Ilt_f, Ile_t, Ile_f, Ieq_t, Ieq_f, Nlt_t, Nlt_f, Nle_t, Nle_f, Neq_t, Neq_f, or_true, true_or, or_false, false_or, and_true, true_and, and_false, false_and, ne_eq, or_self, and_self, decide_true, decide_false, Bool.false_eq_true, f_X12_pack_28, hk, hK1, hN1, toNatD]
    · simp (disch := omega) only [↓reduceIte, add_i0, cast_add1, cast_sub1, toNat120, i32_lit, i32_neg, i32_add, i32_sub, i32_mul, i32_nat, i32_le, i32_lt, i32_eq, inB_i, Int.toNat_natCast, mI_sI_eq, mI_sI_ne, mR_sR_eq, mR_sR_ne, mI_sR, mR_sI, mK_sI, mN_sI, mn_sI, mJ_sI, mK_sR, mN_sR, mn_sR, mJ_sR, mI_wI, mR_wI, mK_wI, mN_wI, mn_wI, mJ_wI, ↓bnd_of, ↓bndX_r, ↓bndX_l, ↓ap_nr, bnd_of, bndX_r, bndX_l, if_true, if_false, ite_true, ite_false, not_true_eq_false, not_false_eq_true, Nat.reduceAdd, Nat.reduceMul, Nat.reduceEqDiff, Int.reduceToNat, Int.reduceNeg, Ilt_t, Ilt_f, Ile_t, Ile_f, Ieq_t, Ieq_f, Nlt_t, Nlt_f, Nle_t, Nle_f, Neq_t, Neq_f, or_true, true_or, or_false, false_or, and_true, true_and, and_false, false_and, ne_eq, or_self, and_self, decide_true, decide_false, Bool.false_eq_true]
    · rw [← hp l (by omega)]; simp (disch := omega) only [↓reduceIte, add_i0, cast_add1, cast_sub1, toNat120, i32_lit, i32_neg, i32_add, i32_sub, i32_mul, i32_nat, i32_le, i32_lt, i32_eq, inB_i, Int.toNat_natCast, mI_sI_eq, mI_sI_ne, mR_sR_eq, mR_sR_ne, mI_sR, mR_sI, mK_sI, mN_sI, mn_sI, mJ_sI, mK_sR, mN_sR, mn_sR, mJ_sR, mI_wI, mR_wI, mK_wI, mN_wI, mn_wI, mJ_wI, ↓bnd_of, ↓bndX_r, ↓bndX_l, ↓ap_nr, bnd_of, bndX_r, bndX_l, if_true, if_false, ite_true, ite_false, not_true_eq_false, not_false_eq_true, Nat.reduceAdd, Nat.reduceMul, Nat.reduceEqDiff, Int.reduceToNat, Int.reduceNeg, Ilt_t, Ilt_f, Ile_t, Ile_f, Ieq_t, Ieq_f, Nlt_t, Nlt_f, Nle_t, Nle_f, Neq_t, Neq_f, or_true, true_or, or_false, false_or, and_true, true_and, and_false, false_and, ne_eq, or_self, and_self, decide_true, decide_false, Bool.false_eq_true]
    · rw [← e30]; simp (disch := omega) only [↓reduceIte, add_i0, cast_add1, cast_sub1, toNat120, i32_lit, i32_neg, i32_add, i32_sub, i32_mul, i32_nat, i32_le, i32_lt, i32_eq, inB_i, Int.toNat_natCast, mI_sI_eq, mI_sI_ne, mR_sR_eq, mR_sR_ne, mI_sR, mR_sI, mK_sI, mN_sI, mn_sI, mJ_sI, mK_sR, mN_sR, mn_sR, mJ_sR, mI_wI, mR_wI, mK_wI, mN_wI, mn_wI, mJ_wI, ↓bnd_of, ↓bndX_r, ↓bndX_l, ↓ap_nr, bnd_of, bndX_r, bndX_l, if_true, if_false, ite_true, ite_false, not_true_eq_false, not_false_eq_true, Nat.reduceAdd, Nat.reduceMul, Nat.reduceEqDiff, Int.reduceToNat, Int.reduceNeg, Ilt_t, Ilt_f, Ile_t, Ile_f, Ieq_t, Ieq_f, Nlt_t, Nlt_f, Nle_t, Nle_f, Neq_t, Neq_f, or_true, true_or, or_false, false_or, and_true, true_and, and_false, false_and, ne_eq, or_self, and_self, decide_true, decide_false, Bool.false_eq_true]
  | succ k ih =>
    intro j m M1 hj hm hL g hp
    obtain ⟨m, rfl⟩ : ∃ q, m = q + 1 := ⟨m - 1, by omega⟩
    have hK1 : mK M1 a = 21 := by rw [g.1]; exact hK
    have hN1 : mN M1 a = mN M a := by rw [g.2.1]
    have e151 := g.i (a := 151) (j := j) (by unfold pkC; omega)
    have g2 : Chg (pkC a off) M (sI M1 a (off + 960 + j) (mI M1 151 j)) := g.sI (by unfold pkC; omega)
    obtain ⟨M', q1, q2, q3, q4, q5⟩ := ih (j + 1) m _ (by omega) (by omega) (hL.all ((Chg.rf (pkC a off) M1).sI (by unfold pkC; omega))) g2 (fun l hl => by
      by_cases e : l = j
      · subst e; rw [← e151]; exact mI_sI_eq
      · rw [← hp l (by omega)]; simp (disch := omega) only [↓reduceIte, add_i0, cast_add1, cast_sub1, toNat120, i32_lit, i32_neg, i32_add, i32_sub, i32_mul, i32_nat, i32_le, i32_lt, i32_eq, inB_i, Int.toNat_natCast, mI_sI_eq, mI_sI_ne, mR_sR_eq, mR_sR_ne, mI_sR, mR_sI, mK_sI, mN_sI, mn_sI, mJ_sI, mK_sR, mN_sR, mn_sR, mJ_sR, mI_wI, mR_wI, mK_wI, mN_wI, mn_wI, mJ_wI, ↓bnd_of, ↓bndX_r, ↓bndX_l, ↓ap_nr, bnd_of, bndX_r, bndX_l, if_true, if_false, ite_true, ite_false, not_true_eq_false, not_false_eq_true, Nat.reduceAdd, Nat.reduceMul, Nat.reduceEqDiff, Int.reduceToNat, Int.reduceNeg, Ilt_t, Ilt_f, Ile_t, Ile_f, Ieq_t, Ieq_f, Nlt_t, Nlt_f, Nle_t, Nle_f, Neq_t, Neq_f, or_true, true_or, or_false, false_or, and_true, true_and, and_false, false_and, ne_eq, or_self, and_self, decide_true, decide_false, Bool.false_eq_true, e])
    refine ⟨M', ?_, q2, fun i hi => ?_, q4, q5⟩
    · rw [← q1]
      simp (disch := omega) only [↓reduceIte, add_i0, cast_add1, cast_sub1, toNat120, i32_lit, i32_neg, i32_add, i32_sub, i32_mul, i32_nat, i32_le, i32_lt, i32_eq, inB_i, Int.toNat_natCast, mI_sI_eq, mI_sI_ne, mR_sR_eq, mR_sR_ne, mI_sR, mR_sI, mK_sI, mN_sI, mn_sI, mJ_sI, mK_sR, mN_sR, mn_sR, mJ_sR, mI_wI, mR_wI, mK_wI, mN_wI, mn_wI, mJ_wI, ↓bnd_of, ↓bndX_r, ↓bndX_l, ↓ap_nr, bnd_of, bndX_r, bndX_l, if_true, if_false, ite_true, ite_false, not_true_eq_false, not_false_eq_true, Nat.reduceAdd, Nat.reduceMul, Nat.reduceEqDiff, Int.reduceToNat, Int.reduceNeg, Ilt_t, Ilt_f, Ile_t, Ile_f, Ieq_t, Ieq_f, Nlt_t, Nlt_f, Nle_t, Nle_f, Neq_t, Neq_f, or_true, true_or, or_false, false_or, and_true, true_and, and_false, false_and, ne_eq, or_self, and_self, decide_true, decide_false, Bool.false_eq_true, f_X12_pack_28, hL.o, hK1, hN1, toNatC]
    · rw [q3 i hi]
      simp (disch := omega) only [↓reduceIte, add_i0, cast_add1, cast_sub1, toNat120, i32_lit, i32_neg, i32_add, i32_sub, i32_mul, i32_nat, i32_le, i32_lt, i32_eq, inB_i, Int.toNat_natCast, mI_sI_eq, mI_sI_ne, mR_sR_eq, mR_sR_ne, mI_sR, mR_sI, mK_sI, mN_sI, mn_sI, mJ_sI, mK_sR, mN_sR, mn_sR, mJ_sR, mI_wI, mR_wI, mK_wI, mN_wI, mn_wI, mJ_wI, ↓bnd_of, ↓bndX_r, ↓bndX_l, ↓ap_nr, bnd_of, bndX_r, bndX_l, if_true, if_false, ite_true, ite_false, not_true_eq_false, not_false_eq_true, Nat.reduceAdd, Nat.reduceMul, Nat.reduceEqDiff, Int.reduceToNat, Int.reduceNeg, Ilt_t, Ilt_f, Ile_t, Ile_f, Ieq_t, Ieq_f, Nlt_t, Nlt_f, Nle_t, Nle_f, Neq_t, Neq_f, or_true, true_or, or_false, false_or, and_true, true_and, and_false, false_and, ne_eq, or_self, and_self, decide_true, decide_false, Bool.false_eq_true]
theorem X12_pack2 {a off : Nat} (ha : 152 ≤ a) (ha2 : a ≤ 162) (hK : mK M a = 21) (hN : off + 969 ≤ mN M a) (ho : off ≤ 100000) : ∀ (k j m : Nat) (M1 : Mem), j + k = 960 → k < m → RLay M1 → Chg (pkC a off) M M1 → (∀ i, i < j → mI M1 a (off + i) = mI M 150 i) → ∃ M', f_X12_pack_2 m 134 a (i32 off) (i32 j) M1 = some ((), M') ∧ Chg (pkC a off) M M' ∧ (∀ i, i < 960 → mI M' a (off + i) = mI M 150 i) ∧ (∀ l, l < 8 → mI M' a (off + 960 + l) = mI M 151 l) ∧ mI M' a (off + 968) = mI M 134 30 := by
  intro k
  induction k with
  | zero =>
    intro j m M1 hj hm hL g hp
    obtain ⟨m, rfl⟩ : ∃ q, m = q + 1 := ⟨m - 1, by omega⟩
    obtain ⟨M', q1, q2, q3, q4, q5⟩ := X12_pack28 ha ha2 hK hN ho 8 0 FUEL M1 (by omega) (by unfold FUEL; omega) hL g (fun l hl => by omega)
    refine ⟨M', ?_, q2, fun i hi => by rw [q3 i hi]; exact hp i (by omega), q4, q5⟩
    rw [← q1]
    simp (disch := omega) only [↓reduceIte, add_i0, cast_add1, cast_sub1, toNat120, i32_lit, i32_neg, i32_add, i32_sub, i32_mul, i32_nat, i32_le, i32_lt, i32_eq, inB_i, Int.toNat_natCast, mI_sI_eq, mI_sI_ne, mR_sR_eq, mR_sR_ne, mI_sR, mR_sI, mK_sI, mN_sI, mn_sI, mJ_sI, mK_sR, mN_sR, mn_sR, mJ_sR, mI_wI, mR_wI, mK_wI, mN_wI, mn_wI, mJ_wI, ↓bnd_of, ↓bndX_r, ↓bndX_l, ↓ap_nr, bnd_of, bndX_r, bndX_l, if_true, if_false, ite_true, ite_false, not_true_eq_false, not_false_eq_true, Nat.reduceAdd, Nat.reduceMul, Nat.reduceEqDiff, Int.reduceToNat, Int.reduceNeg, Ilt_t, Ilt_f, Ile_t, Ile_f, Ieq_t, Ieq_f, Nlt_t, Nlt_f, Nle_t, Nle_f, Neq_t, Neq_f, or_true, true_or, or_false, false_or, and_true, true_and, and_false, false_and, ne_eq, or_self, and_self, decide_true, decide_false, Bool.false_eq_true, f_X12_pack_2]
    rfl
  | succ k ih =>
    intro j m M1 hj hm hL g hp
    obtain ⟨m, rfl⟩ : ∃ q, m = q + 1 := ⟨m - 1, by omega⟩
    have hK1 : mK M1 a = 21 := by rw [g.1]; exact hK
    have hN1 : mN M1 a = mN M a := by rw [g.2.1]
    have e150 := g.i (a := 150) (j := j) (by unfold pkC; omega)
    have g2 : Chg (pkC a off) M (sI M1 a (off + j) (mI M1 150 j)) := g.sI (by unfold pkC; omega)
    obtain ⟨M', q1, q2, q3⟩ := ih (j + 1) m _ (by omega) (by omega) (hL.all ((Chg.rf (pkC a off) M1).sI (by unfold pkC; omega))) g2 (fun l hl => by
      by_cases e : l = j
      · subst e; rw [← e150]; exact mI_sI_eq
      · rw [← hp l (by omega)]; simp (disch := omega) only [↓reduceIte, add_i0, cast_add1, cast_sub1, toNat120, i32_lit, i32_neg, i32_add, i32_sub, i32_mul, i32_nat, i32_le, i32_lt, i32_eq, inB_i, Int.toNat_natCast, mI_sI_eq, mI_sI_ne, mR_sR_eq, mR_sR_ne, mI_sR, mR_sI, mK_sI, mN_sI, mn_sI, mJ_sI, mK_sR, mN_sR, mn_sR, mJ_sR, mI_wI, mR_wI, mK_wI, mN_wI, mn_wI, mJ_wI, ↓bnd_of, ↓bndX_r, ↓bndX_l, ↓ap_nr, bnd_of, bndX_r, bndX_l, if_true, if_false, ite_true, ite_false, not_true_eq_false, not_false_eq_true, Nat.reduceAdd, Nat.reduceMul, Nat.reduceEqDiff, Int.reduceToNat, Int.reduceNeg, Ilt_t, Ilt_f, Ile_t, Ile_f, Ieq_t, Ieq_f, Nlt_t, Nlt_f, Nle_t, Nle_f, Neq_t, Neq_f, or_true, true_or, or_false, false_or, and_true, true_and, and_false, false_and, ne_eq, or_self, and_self, decide_true, decide_false, Bool.false_eq_true, e])
    refine ⟨M', ?_, q2, q3⟩
    rw [← q1]
    simp (disch := omega) only [↓reduceIte, add_i0, cast_add1, cast_sub1, toNat120, i32_lit, i32_neg, i32_add, i32_sub, i32_mul, i32_nat, i32_le, i32_lt, i32_eq, inB_i, Int.toNat_natCast, mI_sI_eq, mI_sI_ne, mR_sR_eq, mR_sR_ne, mI_sR, mR_sI, mK_sI, mN_sI, mn_sI, mJ_sI, mK_sR, mN_sR, mn_sR, mJ_sR, mI_wI, mR_wI, mK_wI, mN_wI, mn_wI, mJ_wI, ↓bnd_of, ↓bndX_r, ↓bndX_l, ↓ap_nr, bnd_of, bndX_r, bndX_l, if_true, if_false, ite_true, ite_false, not_true_eq_false, not_false_eq_true, Nat.reduceAdd, Nat.reduceMul, Nat.reduceEqDiff, Int.reduceToNat, Int.reduceNeg, Ilt_t, Ilt_f, Ile_t, Ile_f, Ieq_t, Ieq_f, Nlt_t, Nlt_f, Nle_t, Nle_f, Neq_t, Neq_f, or_true, true_or, or_false, false_or, and_true, true_and, and_false, false_and, ne_eq, or_self, and_self, decide_true, decide_false, Bool.false_eq_true, f_X12_pack_2, hL.o, hK1, hN1, toNatA]
theorem X12_pack {a off : Nat} (hL : RLay M) (ha : 152 ≤ a) (ha2 : a ≤ 162) (hK : mK M a = 21) (hN : off + 969 ≤ mN M a) (ho : off ≤ 100000) : ∃ M', f_X12_pack 134 a (i32 off) M = some ((), M') ∧ Chg (pkC a off) M M' ∧ (∀ i, i < 960 → mI M' a (off + i) = mI M 150 i) ∧ (∀ l, l < 8 → mI M' a (off + 960 + l) = mI M 151 l) ∧ mI M' a (off + 968) = mI M 134 30 := X12_pack2 ha ha2 hK hN ho 960 0 FUEL M (by omega) (by unfold FUEL; omega) hL (Chg.rf _ M) (fun i hi => by omega)
theorem X12_unpack28 {a off : Nat} (ha : 152 ≤ a) (ha2 : a ≤ 162) (hK : mK M a = 21) (hN : off + 969 ≤ mN M a) (ho : off ≤ 100000) : ∀ (k j m : Nat) (M1 : Mem), j + k = 8 → k < m → RLay M1 → Chg upC M M1 → (∀ i, i < 960 → mI M1 150 i = mI M a (off + i)) → (∀ l, l < j → mI M1 151 l = mI M a (off + 960 + l)) → ∃ M', f_X12_unpack_28 m 134 a (i32 off) (i32 j) M1 = some ((), M') ∧ Chg upC M M' ∧ (∀ i, i < 960 → mI M' 150 i = mI M a (off + i)) ∧ (∀ l, l < 8 → mI M' 151 l = mI M a (off + 960 + l)) ∧ mI M' 134 30 = mI M a (off + 968) := by
  intro k
  induction k with
  | zero =>
    intro j m M1 hj hm hL g h0 hp
    obtain ⟨m, rfl⟩ : ∃ q, m = q + 1 := ⟨m - 1, by omega⟩
    have hk := hL.k
    have hK1 : mK M1 a = 21 := by rw [g.1]; exact hK
    have hN1 : mN M1 a = mN M a := by rw [g.2.1]
    have e1 := g.i (a := a) (j := off + 968) (by unfold upC; omega)
    refine ⟨sI M1 134 30 (mI M1 a (off + 968)), ?_, g.sI (by unfold upC; omega), fun i hi => ?_, fun l hl => ?_, ?_⟩
    · simp (disch := omega) only [↓reduceIte, add_i0, cast_add1, cast_sub1, toNat120, i32_lit, i32_neg, i32_add, i32_sub, i32_mul, i32_nat, i32_le, i32_lt, i32_eq, inB_i, Int.toNat_natCast, mI_sI_eq, mI_sI_ne, mR_sR_eq, mR_sR_ne, mI_sR, mR_sI, mK_sI, mN_sI, mn_sI, mJ_sI, mK_sR, mN_sR, mn_sR, mJ_sR, mI_wI, mR_wI, mK_wI, mN_wI, mn_wI, mJ_wI, ↓bnd_of, ↓bndX_r, ↓bndX_l, ↓ap_nr, bnd_of, bndX_r, bndX_l, if_true, if_false, ite_true, ite_false, not_true_eq_false, not_false_eq_true, Nat.reduceAdd, Nat.reduceMul, Nat.reduceEqDiff, Int.reduceToNat, Int.reduceNeg, Ilt_t, Ilt_f, Ile_t, Ile_f, Ieq_t, Ieq_f, Nlt_t, Nlt_f, Nle_t, Nle_f, Neq_t, Neq_f, or_true, true_or, or_false, false_or, and_true, true_and, and_false, false_and, ne_eq, or_self, and_self, decide_true, decide_false, Bool.false_eq_true, f_X12_unpack_28, hk, hK1, hN1, toNatD]
    · rw [← h0 i hi]; simp (disch := omega) only [↓reduceIte, add_i0, cast_add1, cast_sub1, toNat120, i32_lit, i32_neg, i32_add, i32_sub, i32_mul, i32_nat, i32_le, i32_lt, i32_eq, inB_i, Int.toNat_natCast, mI_sI_eq, mI_sI_ne, mR_sR_eq, mR_sR_ne, mI_sR, mR_sI, mK_sI, mN_sI, mn_sI, mJ_sI, mK_sR, mN_sR, mn_sR, mJ_sR, mI_wI, mR_wI, mK_wI, mN_wI, mn_wI, mJ_wI, ↓bnd_of, ↓bndX_r, ↓bndX_l, ↓ap_nr, bnd_of, bndX_r, bndX_l, if_true, if_false, ite_true, ite_false, not_true_eq_false, not_false_eq_true, Nat.reduceAdd, Nat.reduceMul, Nat.reduceEqDiff, Int.reduceToNat, Int.reduceNeg, Ilt_t, Ilt_f, Ile_t, Ile_f, Ieq_t, Ieq_f, Nlt_t, Nlt_f, Nle_t, Nle_f, Neq_t, Neq_f, or_true, true_or, or_false, false_or, and_true, true_and, and_false, false_and, ne_eq, or_self, and_self, decide_true, decide_false, Bool.false_eq_true]
    · rw [← hp l (by omega)]; simp (disch := omega) only [↓reduceIte, add_i0, cast_add1, cast_sub1, toNat120, i32_lit, i32_neg, i32_add, i32_sub, i32_mul, i32_nat, i32_le, i32_lt, i32_eq, inB_i, Int.toNat_natCast, mI_sI_eq, mI_sI_ne, mR_sR_eq, mR_sR_ne, mI_sR, mR_sI, mK_sI, mN_sI, mn_sI, mJ_sI, mK_sR, mN_sR, mn_sR, mJ_sR, mI_wI, mR_wI, mK_wI, mN_wI, mn_wI, mJ_wI, ↓bnd_of, ↓bndX_r, ↓bndX_l, ↓ap_nr, bnd_of, bndX_r, bndX_l, if_true, if_false, ite_true, ite_false, not_true_eq_false, not_false_eq_true, Nat.reduceAdd, Nat.reduceMul, Nat.reduceEqDiff, Int.reduceToNat, Int.reduceNeg, Ilt_t, Ilt_f, Ile_t, Ile_f, Ieq_t, Ieq_f, Nlt_t, Nlt_f, Nle_t, Nle_f, Neq_t, Neq_f, or_true, true_or, or_false, false_or, and_true, true_and, and_false, false_and, ne_eq, or_self, and_self, decide_true, decide_false, Bool.false_eq_true]
    · rw [← e1]; simp (disch := omega) only [↓reduceIte, add_i0, cast_add1, cast_sub1, toNat120, i32_lit, i32_neg, i32_add, i32_sub, i32_mul, i32_nat, i32_le, i32_lt, i32_eq, inB_i, Int.toNat_natCast, mI_sI_eq, mI_sI_ne, mR_sR_eq, mR_sR_ne, mI_sR, mR_sI, mK_sI, mN_sI, mn_sI, mJ_sI, mK_sR, mN_sR, mn_sR, mJ_sR, mI_wI, mR_wI, mK_wI, mN_wI, mn_wI, mJ_wI, ↓bnd_of, ↓bndX_r, ↓bndX_l, ↓ap_nr, bnd_of, bndX_r, bndX_l, if_true, if_false, ite_true, ite_false, not_true_eq_false, not_false_eq_true, Nat.reduceAdd, Nat.reduceMul, Nat.reduceEqDiff, Int.reduceToNat, Int.reduceNeg, Ilt_t, Ilt_f, Ile_t, Ile_f, Ieq_t, Ieq_f, Nlt_t, Nlt_f, Nle_t, Nle_f, Neq_t, Neq_f, or_true, true_or, or_false, false_or, and_true, true_and, and_false, false_and, ne_eq, or_self, and_self, decide_true, decide_false, Bool.false_eq_true]
  | succ k ih =>
    intro j m M1 hj hm hL g h0 hp
    obtain ⟨m, rfl⟩ : ∃ q, m = q + 1 := ⟨m - 1, by omega⟩
    have hK1 : mK M1 a = 21 := by rw [g.1]; exact hK
    have hN1 : mN M1 a = mN M a := by rw [g.2.1]
    have e1 := g.i (a := a) (j := off + 960 + j) (by unfold upC; omega)
    have g2 : Chg upC M (sI M1 151 j (mI M1 a (off + 960 + j))) := g.sI (by unfold upC; omega)
    obtain ⟨M', q1, q2, q3, q4, q5⟩ := ih (j + 1) m _ (by omega) (by omega) (hL.all ((Chg.rf upC M1).sI (by unfold upC; omega))) g2 (fun i hi => by rw [← h0 i hi]; simp (disch := omega) only [↓reduceIte, add_i0, cast_add1, cast_sub1, toNat120, i32_lit, i32_neg, i32_add, i32_sub, i32_mul, i32_nat, i32_le, i32_lt, i32_eq, inB_i, Int.toNat_natCast, mI_sI_eq, mI_sI_ne, mR_sR_eq, mR_sR_ne, mI_sR, mR_sI, mK_sI, mN_sI, mn_sI, mJ_sI, mK_sR, mN_sR, mn_sR, mJ_sR, mI_wI, mR_wI, mK_wI, mN_wI, mn_wI, mJ_wI, ↓bnd_of, ↓bndX_r, ↓bndX_l, ↓ap_nr, bnd_of, bndX_r, bndX_l, if_true, if_false, ite_true, ite_false, not_true_eq_false, not_false_eq_true, Nat.reduceAdd, Nat.reduceMul, Nat.reduceEqDiff, Int.reduceToNat, Int.reduceNeg, Ilt_t, Ilt_f, Ile_t, Ile_f, Ieq_t, Ieq_f, Nlt_t, Nlt_f, Nle_t, Nle_f, Neq_t, Neq_f, or_true, true_or, or_false, false_or, and_true, true_and, and_false, false_and, ne_eq, or_self, and_self, decide_true, decide_false, Bool.false_eq_true]) (fun l hl => by
      by_cases e : l = j
      · subst e; rw [← e1]; exact mI_sI_eq
      · rw [← hp l (by omega)]; simp (disch := omega) only [↓reduceIte, add_i0, cast_add1, cast_sub1, toNat120, i32_lit, i32_neg, i32_add, i32_sub, i32_mul, i32_nat, i32_le, i32_lt, i32_eq, inB_i, Int.toNat_natCast, mI_sI_eq, mI_sI_ne, mR_sR_eq, mR_sR_ne, mI_sR, mR_sI, mK_sI, mN_sI, mn_sI, mJ_sI, mK_sR, mN_sR, mn_sR, mJ_sR, mI_wI, mR_wI, mK_wI, mN_wI, mn_wI, mJ_wI, ↓bnd_of, ↓bndX_r, ↓bndX_l, ↓ap_nr, bnd_of, bndX_r, bndX_l, if_true, if_false, ite_true, ite_false, not_true_eq_false, not_false_eq_true, Nat.reduceAdd, Nat.reduceMul, Nat.reduceEqDiff, Int.reduceToNat, Int.reduceNeg, Ilt_t, Ilt_f, Ile_t, Ile_f, Ieq_t, Ieq_f, Nlt_t, Nlt_f, Nle_t, Nle_f, Neq_t, Neq_f, or_true, true_or, or_false, false_or, and_true, true_and, and_false, false_and, ne_eq, or_self, and_self, decide_true, decide_false, Bool.false_eq_true, e])
    refine ⟨M', ?_, q2, q3, q4, q5⟩
    rw [← q1]
    simp (disch := omega) only [↓reduceIte, add_i0, cast_add1, cast_sub1, toNat120, i32_lit, i32_neg, i32_add, i32_sub, i32_mul, i32_nat, i32_le, i32_lt, i32_eq, inB_i, Int.toNat_natCast, mI_sI_eq, mI_sI_ne, mR_sR_eq, mR_sR_ne, mI_sR, mR_sI, mK_sI, mN_sI, mn_sI, mJ_sI, mK_sR, mN_sR, mn_sR, mJ_sR, mI_wI, mR_wI, mK_wI, mN_wI, mn_wI, mJ_wI, ↓bnd_of, ↓bndX_r, ↓bndX_l, ↓ap_nr, bnd_of, bndX_r, bndX_l, if_true, if_false, ite_true, ite_false, not_true_eq_false, not_false_eq_true, Nat.reduceAdd, Nat.reduceMul, Nat.reduceEqDiff, Int.reduceToNat, Int.reduceNeg, Ilt_t, Ilt_f, Ile_t, Ile_f, Ieq_t, Ieq_f, Nlt_t, Nlt_f, Nle_t, Nle_f, Neq_t, Neq_f, or_true, true_or, or_false, false_or, and_true, true_and, and_false, false_and, ne_eq, or_self, and_self, decide_true, decide_false, Bool.false_eq_true, f_X12_unpack_28, hL.o, hK1, hN1, toNatC]
theorem X12_unpack2 {a off : Nat} (ha : 152 ≤ a) (ha2 : a ≤ 162) (hK : mK M a = 21) (hN : off + 969 ≤ mN M a) (ho : off ≤ 100000) : ∀ (k j m : Nat) (M1 : Mem), j + k = 960 → k < m → RLay M1 → Chg upC M M1 → (∀ i, i < j → mI M1 150 i = mI M a (off + i)) → ∃ M', f_X12_unpack_2 m 134 a (i32 off) (i32 j) M1 = some ((), M') ∧ Chg upC M M' ∧ (∀ i, i < 960 → mI M' 150 i = mI M a (off + i)) ∧ (∀ l, l < 8 → mI M' 151 l = mI M a (off + 960 + l)) ∧ mI M' 134 30 = mI M a (off + 968) := by
  intro k
  induction k with
  | zero =>
    intro j m M1 hj hm hL g hp
    obtain ⟨m, rfl⟩ : ∃ q, m = q + 1 := ⟨m - 1, by omega⟩
    obtain ⟨M', q1, q2⟩ := X12_unpack28 ha ha2 hK hN ho 8 0 FUEL M1 (by omega) (by unfold FUEL; omega) hL g (fun i hi => hp i (by omega)) (fun l hl => by omega)
    refine ⟨M', ?_, q2⟩
    rw [← q1]
    simp (disch := omega) only [↓reduceIte, add_i0, cast_add1, cast_sub1, toNat120, i32_lit, i32_neg, i32_add, i32_sub, i32_mul, i32_nat, i32_le, i32_lt, i32_eq, inB_i, Int.toNat_natCast, mI_sI_eq, mI_sI_ne, mR_sR_eq, mR_sR_ne, mI_sR, mR_sI, mK_sI, mN_sI, mn_sI, mJ_sI, mK_sR, mN_sR, mn_sR, mJ_sR, mI_wI, mR_wI, mK_wI, mN_wI, mn_wI, mJ_wI, ↓bnd_of, ↓bndX_r, ↓bndX_l, ↓ap_nr, bnd_of, bndX_r, bndX_l, if_true, if_false, ite_true, ite_false, not_true_eq_false, not_false_eq_true, Nat.reduceAdd, Nat.reduceMul, Nat.reduceEqDiff, Int.reduceToNat, Int.reduceNeg, Ilt_t, Ilt_f, Ile_t, Ile_f, Ieq_t, Ieq_f, Nlt_t, Nlt_f, Nle_t, Nle_f, Neq_t, Neq_f, or_true, true_or, or_false, false_or, and_true, true_and, and_false, false_and, ne_eq, or_self, and_self, decide_true, decide_false, Bool.false_eq_true, f_X12_unpack_2]
    rfl
  | succ k ih =>
    intro j m M1 hj hm hL g hp
    obtain ⟨m, rfl⟩ : ∃ q, m = q + 1 := ⟨m - 1, by omega⟩
    have hK1 : mK M1 a = 21 := by rw [g.1]; exact hK
    have hN1 : mN M1 a = mN M a := by rw [g.2.1]
    have e1 := g.i (a := a) (j := off + j) (by unfold upC; omega)
    have g2 : Chg upC M (sI M1 150 j (mI M1 a (off + j))) := g.sI (by unfold upC; omega)
    obtain ⟨M', q1, q2⟩ := ih (j + 1) m _ (by omega) (by omega) (hL.all ((Chg.rf upC M1).sI (by unfold upC; omega))) g2 (fun l hl => by
      by_cases e : l = j
      · subst e; rw [← e1]; exact mI_sI_eq
      · rw [← hp l (by omega)]; simp (disch := omega) only [↓reduceIte, add_i0, cast_add1, cast_sub1, toNat120, i32_lit, i32_neg, i32_add, i32_sub, i32_mul, i32_nat, i32_le, i32_lt, i32_eq, inB_i, Int.toNat_natCast, mI_sI_eq, mI_sI_ne, mR_sR_eq, mR_sR_ne, mI_sR, mR_sI, mK_sI, mN_sI, mn_sI, mJ_sI, mK_sR, mN_sR, mn_sR, mJ_sR, mI_wI, mR_wI, mK_wI, mN_wI, mn_wI, mJ_wI, ↓bnd_of, ↓bndX_r, ↓bndX_l, ↓ap_nr, bnd_of, bndX_r, bndX_l, if_true, if_false, ite_true, ite_false, not_true_eq_false, not_false_eq_true, Nat.reduceAdd, Nat.reduceMul, Nat.reduceEqDiff, Int.reduceToNat, Int.reduceNeg, Ilt_t, Ilt_f, Ile_t, Ile_f, Ieq_t, Ieq_f, Nlt_t, Nlt_f, Nle_t, Nle_f, Neq_t, Neq_f, or_true, true_or, or_false, false_or, and_true, true_and, and_false, false_and, ne_eq, or_self, and_self, decide_true, decide_false, Bool.false_eq_true, e])
    refine ⟨M', ?_, q2⟩
    rw [← q1]
    simp (disch := omega) only [↓reduceIte, add_i0, cast_add1, cast_sub1, toNat120, i32_lit, i32_neg, i32_add, i32_sub, i32_mul, i32_nat, i32_le, i32_lt, i32_eq, inB_i, Int.toNat_natCast, mI_sI_eq, mI_sI_ne, mR_sR_eq, mR_sR_ne, mI_sR, mR_sI, mK_sI, mN_sI, mn_sI, mJ_sI, mK_sR, mN_sR, mn_sR, mJ_sR, mI_wI, mR_wI, mK_wI, mN_wI, mn_wI, mJ_wI, ↓bnd_of, ↓bndX_r, ↓bndX_l, ↓ap_nr, bnd_of, bndX_r, bndX_l, if_true, if_false, ite_true, ite_false, not_true_eq_false, not_false_eq_true, Nat.reduceAdd, Nat.reduceMul, Nat.reduceEqDiff, Int.reduceToNat, Int.reduceNeg, Ilt_t, Ilt_f, Ile_t, Ile_f, Ieq_t, Ieq_f, Nlt_t, Nlt_f, Nle_t, Nle_f, Neq_t, Neq_f, or_true, true_or, or_false, false_or, and_true, true_and, and_false, false_and, ne_eq, or_self, and_self, decide_true, decide_false, Bool.false_eq_true, f_X12_unpack_2, hL.o, hK1, hN1, toNatA]
theorem X12_unpack {a off : Nat} (hL : RLay M) (ha : 152 ≤ a) (ha2 : a ≤ 162) (hK : mK M a = 21) (hN : off + 969 ≤ mN M a) (ho : off ≤ 100000) : ∃ M', f_X12_unpack 134 a (i32 off) M = some ((), M') ∧ Chg upC M M' ∧ (∀ i, i < 960 → mI M' 150 i = mI M a (off + i)) ∧ (∀ l, l < 8 → mI M' 151 l = mI M a (off + 960 + l)) ∧ mI M' 134 30 = mI M a (off + 968) := X12_unpack2 ha ha2 hK hN ho 960 0 FUEL M (by omega) (by unfold FUEL; omega) hL (Chg.rf _ M) (fun i hi => by omega)
end
/-- a row of the reference holds the stripes B -/
def RRow (M : Mem) (a off : Nat) (B : St) : Prop := B.ok ∧ (∀ l, l < 8 → mI M a (off + 960 + l) = i32 (B.sz l)) ∧ (∀ l j, l < 8 → j < B.sz l → mI M a (off + (120 * l + j)) = i32 (10000 * B.rp l j + 1000 * B.df l j + B.vl l j)) ∧ mI M a (off + 968) = i32 B.rc
theorem RRow.of {M M' : Mem} {a off : Nat} {A : St} (h : RE M A) (q1 : ∀ i, i < 960 → mI M' a (off + i) = mI M 150 i) (q2 : ∀ l, l < 8 → mI M' a (off + 960 + l) = mI M 151 l) (q3 : mI M' a (off + 968) = mI M 134 30) : RRow M' a off A := by
  obtain ⟨h0, h1, h2, h3⟩ := h
  refine ⟨h0, fun l hl => by rw [q2 l hl]; exact h1 l hl, fun l j hl hj => ?_, by rw [q3]; exact h3⟩
  have := h0.2.2.2.1 l
  rw [q1 _ (by omega)]
  exact h2 l j hl hj
theorem RE.of {M M' : Mem} {a off : Nat} {A : St} (h : RRow M a off A) (q1 : ∀ i, i < 960 → mI M' 150 i = mI M a (off + i)) (q2 : ∀ l, l < 8 → mI M' 151 l = mI M a (off + 960 + l)) (q3 : mI M' 134 30 = mI M a (off + 968)) : RE M' A := by
  obtain ⟨h0, h1, h2, h3⟩ := h
  refine ⟨h0, fun l hl => by rw [q2 l hl]; exact h1 l hl, fun l j hl hj => ?_, by rw [q3]; exact h3⟩
  have := h0.2.2.2.1 l
  rw [q1 _ (by omega)]
  exact h2 l j hl hj
theorem RRow.cg {M M' : Mem} {a off a' off' : Nat} {A : St} (h : RRow M a off A) (q : ∀ i, i < 969 → mI M' a' (off' + i) = mI M a (off + i)) : RRow M' a' off' A := by
  obtain ⟨h0, h1, h2, h3⟩ := h
  refine ⟨h0, fun l hl => ?_, fun l j hl hj => ?_, ?_⟩
  · have := q (960 + l) (by omega)
    rw [show off' + 960 + l = off' + (960 + l) by omega, this, show off + (960 + l) = off + 960 + l by omega]
    exact h1 l hl
  · have := h0.2.2.2.1 l
    rw [q _ (by omega)]
    exact h2 l j hl hj
  · rw [q _ (by omega)]
    exact h3
