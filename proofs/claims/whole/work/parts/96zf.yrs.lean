/-! years in the class: the years -/
def y2C (a j : Nat) : Prop := a = 16 ∨ a = 17 ∨ (a = 15 ∧ (j = 0 ∨ j = 1 ∨ j = 4 ∨ j = 5))
def cz (S : Sc) (A : St) (l : Nat) : Nat := if l < S.nl then A.sz l else 0
def YS (M : Mem) (S : Sc) (B : St) (z : Int) (sd : Int32) : Prop := mI M 15 0 = i32 B.rc ∧ mI M 15 1 = i32 z ∧ (∀ l, l < 8 → mI M 16 l = i32 (cz S B l)) ∧ mI M 15 5 = sd
theorem vsF_snoc {A : St} {fu : Nat → Int} : ∀ (k l : Nat), vsF A fu (k + 1) l = vsF A fu k l + vs1 A fu (l + k) (A.sz (l + k)) 0 := by
  intro k
  induction k with
  | zero =>
    intro l
    show vs1 A fu l (A.sz l) 0 + 0 = 0 + _
    rw [Int.add_zero, Int.zero_add]
    rfl
  | succ k ih =>
    intro l
    show vs1 A fu l (A.sz l) 0 + vsF A fu (k + 1) (l + 1) = vs1 A fu l (A.sz l) 0 + vsF A fu k (l + 1) + _
    rw [ih, Int.add_assoc, show l + 1 + k = l + (k + 1) by omega]
section
variable {M M' : Mem} {S : Sc} {s : Nat} {A : St}
theorem yC2 (a j : Nat) (h : yC a j) : y2C a j := by unfold yC at h; unfold y2C; omega
theorem YCL.chg2 (h : YCL M s S) (g : Chg y2C M M') : YCL M' s S := ⟨h.1.all g, h.2.1.all g, h.2.2.1.gw h.2.2.2.1 h.2.2.2.2.1 (g.gw (Q := fun _ _ => False) (fun a j q => by unfold y2C at q; omega)) (fun a j q => by unfold y2C at q; omega), h.2.2.2.1, h.2.2.2.2.1, by rw [g.r]; exact h.2.2.2.2.2⟩
theorem X10_record7 {dp : Nat → Nat} (hW : S.wf) (hV : VT S S dp) {sd : Int32} : ∀ (k j m : Nat) (M : Mem), j + k = 8 → k < m → YCL M s S → mI M 15 4 = i32 0 → mI M 15 5 = sd → (∀ l, l < j → mI M 17 l = i32 0) → ∃ M', f_X10_drawRecord_7 m 15 (i32 j) M = some ((), M') ∧ Chg yC M M' ∧ YC M' (fun l => ((cnE l (yrE S sd).1 : Nat) : Int)) (smE (yrE S sd).1) (yrE S sd).2 := by
  intro k
  induction k with
  | zero =>
    intro j m M hj hm hY h4 h5 h
    obtain ⟨m, rfl⟩ : ∃ q, m = q + 1 := ⟨m - 1, by omega⟩
    have k15 : mK M 15 = 11 := by simp only [hY.1.o]
    obtain ⟨M1, e1, g1, w1⟩ := X10_drawFields hW hV 4 0 (by omega) M (fun _ => 0) 0 sd (-1) 0 0 hY ⟨h5, h4, fun l hl => h l (by omega)⟩ (Or.inl ⟨rfl, rfl⟩)
    have e1 : f_X10_drawFields 6 15 (-1 : Int32) (0 : Int32) M = some ((), M1) := e1
    refine ⟨M1, ?_, g1, w1.1, ?_, fun l hl => ?_⟩
    · unfold f_X10_drawRecord_7
      rw [if_pos (by simp (disch := omega) only [↓reduceIte, add_i0, cast_add1, cast_sub1, toNat120, i32_lit, i32_neg, i32_add, i32_sub, i32_mul, i32_nat, i32_le, i32_lt, i32_eq, inB_i, Int.toNat_natCast, mI_sI_eq, mI_sI_ne, mR_sR_eq, mR_sR_ne, mI_sR, mR_sI, mK_sI, mN_sI, mn_sI, mJ_sI, mK_sR, mN_sR, mn_sR, mJ_sR, mI_wI, mR_wI, mK_wI, mN_wI, mn_wI, mJ_wI, ↓bnd_of, ↓bndX_r, ↓bndX_l, ↓ap_nr, bnd_of, bndX_r, bndX_l, if_true, if_false, ite_true, ite_false, not_true_eq_false, not_false_eq_true, Nat.reduceAdd, Nat.reduceMul, Nat.reduceEqDiff, Int.reduceToNat, Int.reduceNeg, Ilt_t, Ilt_f, Ile_t, Ile_f, Ieq_t, Ieq_f, Nlt_t, Nlt_f, Nle_t, Nle_f, Neq_t, Neq_f, or_true, true_or, or_false, false_or, and_true, true_and, and_false, false_and, ne_eq, or_self, and_self, decide_true, decide_false, Bool.false_eq_true]), if_pos k15, bx e1]
    · have := w1.2.1
      rw [Int.zero_add] at this
      exact this
    · have := w1.2.2 l hl
      have : mI M1 17 l = i32 (0 + ((cnE l (yrE S sd).1 : Nat) : Int)) := this
      rw [Int.zero_add] at this
      exact this
  | succ k ih =>
    intro j m M hj hm hY h4 h5 h
    obtain ⟨m, rfl⟩ : ∃ q, m = q + 1 := ⟨m - 1, by omega⟩
    have hL := hY.1
    have k15 : mK M 15 = 11 := by simp only [hL.o]
    have r3 : mR M 15 3 = 17 := by simp only [hL.o]
    have k17 : mK M 17 = 21 := by simp only [hL.o]
    have n17 : mN M 17 = 8 := by simp only [hL.o]
    have inj : inB (i32 (j : Int)) 8 = true := by simp (disch := omega) only [↓reduceIte, add_i0, cast_add1, cast_sub1, toNat120, i32_lit, i32_neg, i32_add, i32_sub, i32_mul, i32_nat, i32_le, i32_lt, i32_eq, inB_i, Int.toNat_natCast, mI_sI_eq, mI_sI_ne, mR_sR_eq, mR_sR_ne, mI_sR, mR_sI, mK_sI, mN_sI, mn_sI, mJ_sI, mK_sR, mN_sR, mn_sR, mJ_sR, mI_wI, mR_wI, mK_wI, mN_wI, mn_wI, mJ_wI, ↓bnd_of, ↓bndX_r, ↓bndX_l, ↓ap_nr, bnd_of, bndX_r, bndX_l, if_true, if_false, ite_true, ite_false, not_true_eq_false, not_false_eq_true, Nat.reduceAdd, Nat.reduceMul, Nat.reduceEqDiff, Int.reduceToNat, Int.reduceNeg, Ilt_t, Ilt_f, Ile_t, Ile_f, Ieq_t, Ieq_f, Nlt_t, Nlt_f, Nle_t, Nle_f, Neq_t, Neq_f, or_true, true_or, or_false, false_or, and_true, true_and, and_false, false_and, ne_eq, or_self, and_self, decide_true, decide_false, Bool.false_eq_true]
    have lt : ¬ ((8 : Int32) ≤ i32 (j : Int)) := by simp (disch := omega) only [↓reduceIte, add_i0, cast_add1, cast_sub1, toNat120, i32_lit, i32_neg, i32_add, i32_sub, i32_mul, i32_nat, i32_le, i32_lt, i32_eq, inB_i, Int.toNat_natCast, mI_sI_eq, mI_sI_ne, mR_sR_eq, mR_sR_ne, mI_sR, mR_sI, mK_sI, mN_sI, mn_sI, mJ_sI, mK_sR, mN_sR, mn_sR, mJ_sR, mI_wI, mR_wI, mK_wI, mN_wI, mn_wI, mJ_wI, ↓bnd_of, ↓bndX_r, ↓bndX_l, ↓ap_nr, bnd_of, bndX_r, bndX_l, if_true, if_false, ite_true, ite_false, not_true_eq_false, not_false_eq_true, Nat.reduceAdd, Nat.reduceMul, Nat.reduceEqDiff, Int.reduceToNat, Int.reduceNeg, Ilt_t, Ilt_f, Ile_t, Ile_f, Ieq_t, Ieq_f, Nlt_t, Nlt_f, Nle_t, Nle_f, Neq_t, Neq_f, or_true, true_or, or_false, false_or, and_true, true_and, and_false, false_and, ne_eq, or_self, and_self, decide_true, decide_false, Bool.false_eq_true]
    have g0 : Chg yC M (sI M 17 j (0 : Int32)) := (Chg.rf yC M).sI (by unfold yC; omega)
    obtain ⟨M1, e1, g1, w1⟩ := ih (j + 1) m (sI M 17 j (0 : Int32)) (by omega) (by omega) (hY.chg g0) (by rw [mI_sI_ne (by omega)]; exact h4) (by rw [mI_sI_ne (by omega)]; exact h5) (fun l hl => by
      by_cases c : l = j
      · subst c
        rw [mI_sI_eq]
        rfl
      · rw [mI_sI_ne (by omega)]
        exact h l (by omega))
    refine ⟨M1, ?_, g0.tr g1, w1⟩
    rw [← e1]
    conv => lhs; unfold f_X10_drawRecord_7
    rw [if_neg lt, if_pos k15, r3, if_pos k17, n17, if_pos inj, nat_i (by omega), ap_of, k_add1]
theorem X10_drawRecord {dp : Nat → Nat} (hW : S.wf) (hV : VT S S dp) {sd : Int32} (hY : YCL M s S) (h5 : mI M 15 5 = sd) : ∃ M', f_X10_drawRecord 15 M = some ((), M') ∧ Chg yC M M' ∧ YC M' (fun l => ((cnE l (yrE S sd).1 : Nat) : Int)) (smE (yrE S sd).1) (yrE S sd).2 := by
  have k15 : mK M 15 = 11 := by simp only [hY.1.o]
  have g0 : Chg yC M (sI M 15 4 (0 : Int32)) := (Chg.rf yC M).sI (by unfold yC; omega)
  obtain ⟨M1, e1, g1, w1⟩ := X10_record7 (sd := sd) hW hV 8 0 FUEL (sI M 15 4 (0 : Int32)) (by omega) (by unfold FUEL; omega) (hY.chg g0) mI_sI_eq (by rw [mI_sI_ne (by omega)]; exact h5) (fun l hl => by omega)
  refine ⟨M1, ?_, g0.tr g1, w1⟩
  unfold f_X10_drawRecord
  rw [if_pos k15, ap_of]
  exact e1
theorem X10_room2 {c d : Nat → Nat} (hL : CLay M) (h1 : ∀ l, l < 8 → mI M 16 l = i32 (c l)) (h2 : ∀ l, l < 8 → mI M 17 l = i32 (d l)) (hb : ∀ l, l < 8 → c l + d l ≤ 2000000000) : ∀ (k j m : Nat), j + k = 8 → k < m → ((∀ l, j ≤ l → l < 8 → c l + d l ≤ 120) → f_X10_hasRoom_2 m 15 (i32 j) M = some (i32 1, M)) ∧ ((¬ ∀ l, j ≤ l → l < 8 → c l + d l ≤ 120) → f_X10_hasRoom_2 m 15 (i32 j) M = some (i32 0, M)) := by
  have k15 : mK M 15 = 11 := by simp only [hL.o]
  have r2 : mR M 15 2 = 16 := by simp only [hL.o]
  have k16 : mK M 16 = 21 := by simp only [hL.o]
  have n16 : mN M 16 = 8 := by simp only [hL.o]
  have r3 : mR M 15 3 = 17 := by simp only [hL.o]
  have k17 : mK M 17 = 21 := by simp only [hL.o]
  have n17 : mN M 17 = 8 := by simp only [hL.o]
  intro k
  induction k with
  | zero =>
    intro j m hj hm
    obtain ⟨m, rfl⟩ : ∃ q, m = q + 1 := ⟨m - 1, by omega⟩
    refine ⟨fun _ => ?_, fun h => absurd (fun l h1 h2 => by omega) h⟩
    unfold f_X10_hasRoom_2
    rw [if_pos (by simp (disch := omega) only [↓reduceIte, add_i0, cast_add1, cast_sub1, toNat120, i32_lit, i32_neg, i32_add, i32_sub, i32_mul, i32_nat, i32_le, i32_lt, i32_eq, inB_i, Int.toNat_natCast, mI_sI_eq, mI_sI_ne, mR_sR_eq, mR_sR_ne, mI_sR, mR_sI, mK_sI, mN_sI, mn_sI, mJ_sI, mK_sR, mN_sR, mn_sR, mJ_sR, mI_wI, mR_wI, mK_wI, mN_wI, mn_wI, mJ_wI, ↓bnd_of, ↓bndX_r, ↓bndX_l, ↓ap_nr, bnd_of, bndX_r, bndX_l, if_true, if_false, ite_true, ite_false, not_true_eq_false, not_false_eq_true, Nat.reduceAdd, Nat.reduceMul, Nat.reduceEqDiff, Int.reduceToNat, Int.reduceNeg, Ilt_t, Ilt_f, Ile_t, Ile_f, Ieq_t, Ieq_f, Nlt_t, Nlt_f, Nle_t, Nle_f, Neq_t, Neq_f, or_true, true_or, or_false, false_or, and_true, true_and, and_false, false_and, ne_eq, or_self, and_self, decide_true, decide_false, Bool.false_eq_true])]
    rfl
  | succ k ih =>
    intro j m hj hm
    obtain ⟨m, rfl⟩ : ∃ q, m = q + 1 := ⟨m - 1, by omega⟩
    have ih' := ih (j + 1) m (by omega) (by omega)
    have inj : inB (i32 (j : Int)) 8 = true := by simp (disch := omega) only [↓reduceIte, add_i0, cast_add1, cast_sub1, toNat120, i32_lit, i32_neg, i32_add, i32_sub, i32_mul, i32_nat, i32_le, i32_lt, i32_eq, inB_i, Int.toNat_natCast, mI_sI_eq, mI_sI_ne, mR_sR_eq, mR_sR_ne, mI_sR, mR_sI, mK_sI, mN_sI, mn_sI, mJ_sI, mK_sR, mN_sR, mn_sR, mJ_sR, mI_wI, mR_wI, mK_wI, mN_wI, mn_wI, mJ_wI, ↓bnd_of, ↓bndX_r, ↓bndX_l, ↓ap_nr, bnd_of, bndX_r, bndX_l, if_true, if_false, ite_true, ite_false, not_true_eq_false, not_false_eq_true, Nat.reduceAdd, Nat.reduceMul, Nat.reduceEqDiff, Int.reduceToNat, Int.reduceNeg, Ilt_t, Ilt_f, Ile_t, Ile_f, Ieq_t, Ieq_f, Nlt_t, Nlt_f, Nle_t, Nle_f, Neq_t, Neq_f, or_true, true_or, or_false, false_or, and_true, true_and, and_false, false_and, ne_eq, or_self, and_self, decide_true, decide_false, Bool.false_eq_true]
    have lt : ¬ ((8 : Int32) ≤ i32 (j : Int)) := by simp (disch := omega) only [↓reduceIte, add_i0, cast_add1, cast_sub1, toNat120, i32_lit, i32_neg, i32_add, i32_sub, i32_mul, i32_nat, i32_le, i32_lt, i32_eq, inB_i, Int.toNat_natCast, mI_sI_eq, mI_sI_ne, mR_sR_eq, mR_sR_ne, mI_sR, mR_sI, mK_sI, mN_sI, mn_sI, mJ_sI, mK_sR, mN_sR, mn_sR, mJ_sR, mI_wI, mR_wI, mK_wI, mN_wI, mn_wI, mJ_wI, ↓bnd_of, ↓bndX_r, ↓bndX_l, ↓ap_nr, bnd_of, bndX_r, bndX_l, if_true, if_false, ite_true, ite_false, not_true_eq_false, not_false_eq_true, Nat.reduceAdd, Nat.reduceMul, Nat.reduceEqDiff, Int.reduceToNat, Int.reduceNeg, Ilt_t, Ilt_f, Ile_t, Ile_f, Ieq_t, Ieq_f, Nlt_t, Nlt_f, Nle_t, Nle_f, Neq_t, Neq_f, or_true, true_or, or_false, false_or, and_true, true_and, and_false, false_and, ne_eq, or_self, and_self, decide_true, decide_false, Bool.false_eq_true]
    have hbj := hb j (by omega)
    have es : mI M 16 j + mI M 17 j = i32 ((c j + d j : Nat) : Int) := by
      rw [h1 j (by omega), h2 j (by omega), i32_add]
      rfl
    by_cases q : c j + d j ≤ 120
    · have st : f_X10_hasRoom_2 (m + 1) 15 (i32 (j : Int)) M = f_X10_hasRoom_2 m 15 (i32 ((j + 1 : Nat) : Int)) M := by
        conv => lhs; unfold f_X10_hasRoom_2
        rw [if_neg lt, if_pos k15, r2, if_pos k16, n16, if_pos inj, r3, if_pos k17, n17, if_pos inj, nat_i (by omega), es, if_pos (by simp (disch := omega) only [↓reduceIte, add_i0, cast_add1, cast_sub1, toNat120, i32_lit, i32_neg, i32_add, i32_sub, i32_mul, i32_nat, i32_le, i32_lt, i32_eq, inB_i, Int.toNat_natCast, mI_sI_eq, mI_sI_ne, mR_sR_eq, mR_sR_ne, mI_sR, mR_sI, mK_sI, mN_sI, mn_sI, mJ_sI, mK_sR, mN_sR, mn_sR, mJ_sR, mI_wI, mR_wI, mK_wI, mN_wI, mn_wI, mJ_wI, ↓bnd_of, ↓bndX_r, ↓bndX_l, ↓ap_nr, bnd_of, bndX_r, bndX_l, if_true, if_false, ite_true, ite_false, not_true_eq_false, not_false_eq_true, Nat.reduceAdd, Nat.reduceMul, Nat.reduceEqDiff, Int.reduceToNat, Int.reduceNeg, Ilt_t, Ilt_f, Ile_t, Ile_f, Ieq_t, Ieq_f, Nlt_t, Nlt_f, Nle_t, Nle_f, Neq_t, Neq_f, or_true, true_or, or_false, false_or, and_true, true_and, and_false, false_and, ne_eq, or_self, and_self, decide_true, decide_false, Bool.false_eq_true]), k_add1]
      rw [st]
      refine ⟨fun h => ih'.1 (fun l h1 h2 => h l (by omega) h2), fun h => ih'.2 (fun w => h (fun l h1 h2 => ?_))⟩
      by_cases e : l = j
      · subst e; exact q
      · exact w l (by omega) h2
    · refine ⟨fun h => absurd (h j (by omega) (by omega)) q, fun _ => ?_⟩
      unfold f_X10_hasRoom_2
      rw [if_neg lt, if_pos k15, r2, if_pos k16, n16, if_pos inj, r3, if_pos k17, n17, if_pos inj, nat_i (by omega), es, if_neg (by simp (disch := omega) only [↓reduceIte, add_i0, cast_add1, cast_sub1, toNat120, i32_lit, i32_neg, i32_add, i32_sub, i32_mul, i32_nat, i32_le, i32_lt, i32_eq, inB_i, Int.toNat_natCast, mI_sI_eq, mI_sI_ne, mR_sR_eq, mR_sR_ne, mI_sR, mR_sI, mK_sI, mN_sI, mn_sI, mJ_sI, mK_sR, mN_sR, mn_sR, mJ_sR, mI_wI, mR_wI, mK_wI, mN_wI, mn_wI, mJ_wI, ↓bnd_of, ↓bndX_r, ↓bndX_l, ↓ap_nr, bnd_of, bndX_r, bndX_l, if_true, if_false, ite_true, ite_false, not_true_eq_false, not_false_eq_true, Nat.reduceAdd, Nat.reduceMul, Nat.reduceEqDiff, Int.reduceToNat, Int.reduceNeg, Ilt_t, Ilt_f, Ile_t, Ile_f, Ieq_t, Ieq_f, Nlt_t, Nlt_f, Nle_t, Nle_f, Neq_t, Neq_f, or_true, true_or, or_false, false_or, and_true, true_and, and_false, false_and, ne_eq, or_self, and_self, decide_true, decide_false, Bool.false_eq_true])]
      rfl
theorem X10_take25 {c d : Nat → Nat} : ∀ (k j m : Nat) (M : Mem), j + k = 8 → k < m → CLay M → (∀ l, l < j → mI M 16 l = i32 ((c l + d l : Nat) : Int)) → (∀ l, j ≤ l → l < 8 → mI M 16 l = i32 (c l)) → (∀ l, l < 8 → mI M 17 l = i32 (d l)) → ∃ M', f_X10_takeRecord_25 m 15 (i32 j) M = some ((), M') ∧ Chg (fun a _ => a = 16) M M' ∧ ∀ l, l < 8 → mI M' 16 l = i32 ((c l + d l : Nat) : Int) := by
  intro k
  induction k with
  | zero =>
    intro j m M hj hm hL h1 h2 h3
    obtain ⟨m, rfl⟩ : ∃ q, m = q + 1 := ⟨m - 1, by omega⟩
    refine ⟨M, ?_, Chg.rf _ M, fun l hl => h1 l (by omega)⟩
    unfold f_X10_takeRecord_25
    rw [if_pos (by simp (disch := omega) only [↓reduceIte, add_i0, cast_add1, cast_sub1, toNat120, i32_lit, i32_neg, i32_add, i32_sub, i32_mul, i32_nat, i32_le, i32_lt, i32_eq, inB_i, Int.toNat_natCast, mI_sI_eq, mI_sI_ne, mR_sR_eq, mR_sR_ne, mI_sR, mR_sI, mK_sI, mN_sI, mn_sI, mJ_sI, mK_sR, mN_sR, mn_sR, mJ_sR, mI_wI, mR_wI, mK_wI, mN_wI, mn_wI, mJ_wI, ↓bnd_of, ↓bndX_r, ↓bndX_l, ↓ap_nr, bnd_of, bndX_r, bndX_l, if_true, if_false, ite_true, ite_false, not_true_eq_false, not_false_eq_true, Nat.reduceAdd, Nat.reduceMul, Nat.reduceEqDiff, Int.reduceToNat, Int.reduceNeg, Ilt_t, Ilt_f, Ile_t, Ile_f, Ieq_t, Ieq_f, Nlt_t, Nlt_f, Nle_t, Nle_f, Neq_t, Neq_f, or_true, true_or, or_false, false_or, and_true, true_and, and_false, false_and, ne_eq, or_self, and_self, decide_true, decide_false, Bool.false_eq_true])]
  | succ k ih =>
    intro j m M hj hm hL h1 h2 h3
    obtain ⟨m, rfl⟩ : ∃ q, m = q + 1 := ⟨m - 1, by omega⟩
    have k15 : mK M 15 = 11 := by simp only [hL.o]
    have r2 : mR M 15 2 = 16 := by simp only [hL.o]
    have k16 : mK M 16 = 21 := by simp only [hL.o]
    have n16 : mN M 16 = 8 := by simp only [hL.o]
    have r3 : mR M 15 3 = 17 := by simp only [hL.o]
    have k17 : mK M 17 = 21 := by simp only [hL.o]
    have n17 : mN M 17 = 8 := by simp only [hL.o]
    have inj : inB (i32 (j : Int)) 8 = true := by simp (disch := omega) only [↓reduceIte, add_i0, cast_add1, cast_sub1, toNat120, i32_lit, i32_neg, i32_add, i32_sub, i32_mul, i32_nat, i32_le, i32_lt, i32_eq, inB_i, Int.toNat_natCast, mI_sI_eq, mI_sI_ne, mR_sR_eq, mR_sR_ne, mI_sR, mR_sI, mK_sI, mN_sI, mn_sI, mJ_sI, mK_sR, mN_sR, mn_sR, mJ_sR, mI_wI, mR_wI, mK_wI, mN_wI, mn_wI, mJ_wI, ↓bnd_of, ↓bndX_r, ↓bndX_l, ↓ap_nr, bnd_of, bndX_r, bndX_l, if_true, if_false, ite_true, ite_false, not_true_eq_false, not_false_eq_true, Nat.reduceAdd, Nat.reduceMul, Nat.reduceEqDiff, Int.reduceToNat, Int.reduceNeg, Ilt_t, Ilt_f, Ile_t, Ile_f, Ieq_t, Ieq_f, Nlt_t, Nlt_f, Nle_t, Nle_f, Neq_t, Neq_f, or_true, true_or, or_false, false_or, and_true, true_and, and_false, false_and, ne_eq, or_self, and_self, decide_true, decide_false, Bool.false_eq_true]
    have lt : ¬ ((8 : Int32) ≤ i32 (j : Int)) := by simp (disch := omega) only [↓reduceIte, add_i0, cast_add1, cast_sub1, toNat120, i32_lit, i32_neg, i32_add, i32_sub, i32_mul, i32_nat, i32_le, i32_lt, i32_eq, inB_i, Int.toNat_natCast, mI_sI_eq, mI_sI_ne, mR_sR_eq, mR_sR_ne, mI_sR, mR_sI, mK_sI, mN_sI, mn_sI, mJ_sI, mK_sR, mN_sR, mn_sR, mJ_sR, mI_wI, mR_wI, mK_wI, mN_wI, mn_wI, mJ_wI, ↓bnd_of, ↓bndX_r, ↓bndX_l, ↓ap_nr, bnd_of, bndX_r, bndX_l, if_true, if_false, ite_true, ite_false, not_true_eq_false, not_false_eq_true, Nat.reduceAdd, Nat.reduceMul, Nat.reduceEqDiff, Int.reduceToNat, Int.reduceNeg, Ilt_t, Ilt_f, Ile_t, Ile_f, Ieq_t, Ieq_f, Nlt_t, Nlt_f, Nle_t, Nle_f, Neq_t, Neq_f, or_true, true_or, or_false, false_or, and_true, true_and, and_false, false_and, ne_eq, or_self, and_self, decide_true, decide_false, Bool.false_eq_true]
    have es : mI M 16 j + mI M 17 j = i32 ((c j + d j : Nat) : Int) := by
      rw [h2 j (by omega) (by omega), h3 j (by omega), i32_add]
      rfl
    have g0 : Chg (fun a _ => a = 16) M (sI M 16 j (i32 ((c j + d j : Nat) : Int))) := (Chg.rf _ M).sI rfl
    obtain ⟨M1, e1, g1, w1⟩ := ih (j + 1) m (sI M 16 j (i32 ((c j + d j : Nat) : Int))) (by omega) (by omega) (hL.all g0) (fun l hl => by
      by_cases q : l = j
      · subst q; exact mI_sI_eq
      · rw [mI_sI_ne (by omega)]; exact h1 l (by omega)) (fun l q1 q2 => by rw [mI_sI_ne (by omega)]; exact h2 l (by omega) q2) (fun l hl => by rw [mI_sI_ne (by omega)]; exact h3 l hl)
    refine ⟨M1, ?_, g0.tr g1, w1⟩
    rw [← e1]
    conv => lhs; unfold f_X10_takeRecord_25
    rw [if_neg lt, if_pos k15, r2, if_pos k16, n16, if_pos inj, r3, if_pos k17, n17, if_pos inj, nat_i (by omega), es, ap_of, k_add1]
theorem X10_sum4 {c : Nat → Nat} (hL : CLay M) (h1 : ∀ l, l < 8 → mI M 16 l = i32 (c l)) : ∀ (k j m : Nat) (x : Int32), j + k = 8 → k < m → f_X10_entrySum_4 m 15 x (i32 j) M = some (lp (fun l x => x + i32 (c l)) k j x, M) := by
  have k15 : mK M 15 = 11 := by simp only [hL.o]
  have r2 : mR M 15 2 = 16 := by simp only [hL.o]
  have k16 : mK M 16 = 21 := by simp only [hL.o]
  have n16 : mN M 16 = 8 := by simp only [hL.o]
  intro k
  induction k with
  | zero =>
    intro j m x hj hm
    obtain ⟨m, rfl⟩ : ∃ q, m = q + 1 := ⟨m - 1, by omega⟩
    unfold f_X10_entrySum_4
    rw [if_pos (by simp (disch := omega) only [↓reduceIte, add_i0, cast_add1, cast_sub1, toNat120, i32_lit, i32_neg, i32_add, i32_sub, i32_mul, i32_nat, i32_le, i32_lt, i32_eq, inB_i, Int.toNat_natCast, mI_sI_eq, mI_sI_ne, mR_sR_eq, mR_sR_ne, mI_sR, mR_sI, mK_sI, mN_sI, mn_sI, mJ_sI, mK_sR, mN_sR, mn_sR, mJ_sR, mI_wI, mR_wI, mK_wI, mN_wI, mn_wI, mJ_wI, ↓bnd_of, ↓bndX_r, ↓bndX_l, ↓ap_nr, bnd_of, bndX_r, bndX_l, if_true, if_false, ite_true, ite_false, not_true_eq_false, not_false_eq_true, Nat.reduceAdd, Nat.reduceMul, Nat.reduceEqDiff, Int.reduceToNat, Int.reduceNeg, Ilt_t, Ilt_f, Ile_t, Ile_f, Ieq_t, Ieq_f, Nlt_t, Nlt_f, Nle_t, Nle_f, Neq_t, Neq_f, or_true, true_or, or_false, false_or, and_true, true_and, and_false, false_and, ne_eq, or_self, and_self, decide_true, decide_false, Bool.false_eq_true])]
    rfl
  | succ k ih =>
    intro j m x hj hm
    obtain ⟨m, rfl⟩ : ∃ q, m = q + 1 := ⟨m - 1, by omega⟩
    have inj : inB (i32 (j : Int)) 8 = true := by simp (disch := omega) only [↓reduceIte, add_i0, cast_add1, cast_sub1, toNat120, i32_lit, i32_neg, i32_add, i32_sub, i32_mul, i32_nat, i32_le, i32_lt, i32_eq, inB_i, Int.toNat_natCast, mI_sI_eq, mI_sI_ne, mR_sR_eq, mR_sR_ne, mI_sR, mR_sI, mK_sI, mN_sI, mn_sI, mJ_sI, mK_sR, mN_sR, mn_sR, mJ_sR, mI_wI, mR_wI, mK_wI, mN_wI, mn_wI, mJ_wI, ↓bnd_of, ↓bndX_r, ↓bndX_l, ↓ap_nr, bnd_of, bndX_r, bndX_l, if_true, if_false, ite_true, ite_false, not_true_eq_false, not_false_eq_true, Nat.reduceAdd, Nat.reduceMul, Nat.reduceEqDiff, Int.reduceToNat, Int.reduceNeg, Ilt_t, Ilt_f, Ile_t, Ile_f, Ieq_t, Ieq_f, Nlt_t, Nlt_f, Nle_t, Nle_f, Neq_t, Neq_f, or_true, true_or, or_false, false_or, and_true, true_and, and_false, false_and, ne_eq, or_self, and_self, decide_true, decide_false, Bool.false_eq_true]
    have lt : ¬ ((8 : Int32) ≤ i32 (j : Int)) := by simp (disch := omega) only [↓reduceIte, add_i0, cast_add1, cast_sub1, toNat120, i32_lit, i32_neg, i32_add, i32_sub, i32_mul, i32_nat, i32_le, i32_lt, i32_eq, inB_i, Int.toNat_natCast, mI_sI_eq, mI_sI_ne, mR_sR_eq, mR_sR_ne, mI_sR, mR_sI, mK_sI, mN_sI, mn_sI, mJ_sI, mK_sR, mN_sR, mn_sR, mJ_sR, mI_wI, mR_wI, mK_wI, mN_wI, mn_wI, mJ_wI, ↓bnd_of, ↓bndX_r, ↓bndX_l, ↓ap_nr, bnd_of, bndX_r, bndX_l, if_true, if_false, ite_true, ite_false, not_true_eq_false, not_false_eq_true, Nat.reduceAdd, Nat.reduceMul, Nat.reduceEqDiff, Int.reduceToNat, Int.reduceNeg, Ilt_t, Ilt_f, Ile_t, Ile_f, Ieq_t, Ieq_f, Nlt_t, Nlt_f, Nle_t, Nle_f, Neq_t, Neq_f, or_true, true_or, or_false, false_or, and_true, true_and, and_false, false_and, ne_eq, or_self, and_self, decide_true, decide_false, Bool.false_eq_true]
    show _ = some (lp (fun l x => x + i32 (c l)) k (j + 1) (x + i32 (c j)), M)
    rw [← ih (j + 1) m (x + i32 (c j)) (by omega) (by omega)]
    conv => lhs; unfold f_X10_entrySum_4
    rw [if_neg lt, if_pos k15, r2, if_pos k16, n16, if_pos inj, nat_i (by omega), h1 j (by omega), k_add1]
theorem all_cz (S : Sc) (B : St) (hn : S.nl ≤ 8) : lp (fun l x => x + i32 (cz S B l)) 8 0 (i32 0) = B.all S.nl := by
  have H : ∀ (k j : Nat) (x : Int32), S.nl ≤ j + k → lp (fun l x => x + i32 (cz S B l)) k j x = lp (fun l x => x + i32 (B.sz l)) (S.nl - j) j x := by
    intro k
    induction k with
    | zero =>
      intro j x h
      rw [show S.nl - j = 0 by omega]
      rfl
    | succ k ih =>
      intro j x h
      show lp _ k (j + 1) (x + i32 (cz S B j)) = _
      rw [ih (j + 1) _ (by omega)]
      by_cases c : j < S.nl
      · have e : cz S B j = B.sz j := if_pos c
        rw [e, show S.nl - j = (S.nl - (j + 1)) + 1 by omega]
        rfl
      · have e : cz S B j = 0 := if_neg c
        rw [e, show S.nl - j = 0 by omega, show S.nl - (j + 1) = 0 by omega]
        show x + i32 0 = x
        exact add_i0 x
  exact H 8 0 (i32 0) (by omega)
theorem X10_run110 {dp : Nat → Nat} {n : Nat} (hn : n ≤ 10) (hW : S.wf) (hV : VT S S dp) (hY : YCL M s S) : ∀ (k i m : Nat) (M1 : Mem) (B : St) (sd : Int32), i + k = n → k < m → Chg y2C M M1 → B.ok → YS M1 S B (vsF B S.fu S.nl 0) sd → ∃ M2, f_X10_run_110 m 15 (i32 n) (i32 i) M1 = some ((), M2) ∧ Chg y2C M M2 ∧ (yrs S k (B, sd)).1.ok ∧ YS M2 S (yrs S k (B, sd)).1 (vsF (yrs S k (B, sd)).1 S.fu S.nl 0) (yrs S k (B, sd)).2 := by
  have hnl := hW.1.2.1
  intro k
  induction k with
  | zero =>
    intro i m M1 B sd hi hm g hB hS
    obtain ⟨m, rfl⟩ : ∃ q, m = q + 1 := ⟨m - 1, by omega⟩
    refine ⟨M1, ?_, g, hB, hS⟩
    unfold f_X10_run_110
    rw [if_pos (by simp (disch := omega) only [↓reduceIte, add_i0, cast_add1, cast_sub1, toNat120, i32_lit, i32_neg, i32_add, i32_sub, i32_mul, i32_nat, i32_le, i32_lt, i32_eq, inB_i, Int.toNat_natCast, mI_sI_eq, mI_sI_ne, mR_sR_eq, mR_sR_ne, mI_sR, mR_sI, mK_sI, mN_sI, mn_sI, mJ_sI, mK_sR, mN_sR, mn_sR, mJ_sR, mI_wI, mR_wI, mK_wI, mN_wI, mn_wI, mJ_wI, ↓bnd_of, ↓bndX_r, ↓bndX_l, ↓ap_nr, bnd_of, bndX_r, bndX_l, if_true, if_false, ite_true, ite_false, not_true_eq_false, not_false_eq_true, Nat.reduceAdd, Nat.reduceMul, Nat.reduceEqDiff, Int.reduceToNat, Int.reduceNeg, Ilt_t, Ilt_f, Ile_t, Ile_f, Ieq_t, Ieq_f, Nlt_t, Nlt_f, Nle_t, Nle_f, Neq_t, Neq_f, or_true, true_or, or_false, false_or, and_true, true_and, and_false, false_and, ne_eq, or_self, and_self, decide_true, decide_false, Bool.false_eq_true])]
  | succ k ih =>
    intro i m M1 B sd hi hm g hB hS
    obtain ⟨m, rfl⟩ : ∃ q, m = q + 1 := ⟨m - 1, by omega⟩
    have hY1 := hY.chg2 g
    have k15 : mK M1 15 = 11 := by simp only [hY1.1.o]
    obtain ⟨M2, e2, g2, w2⟩ := X10_drawRecord hW hV hY1 hS.2.2.2
    have gg2 := g.tr (g2.mono yC2)
    have hY2 := hY.chg2 gg2
    have hL2 := hY2.1
    have k152 : mK M2 15 = 11 := by simp only [hL2.o]
    have h0 : mI M2 15 0 = i32 B.rc := by rw [g2.i (by unfold yC; omega)]; exact hS.1
    have h1 : mI M2 15 1 = i32 (vsF B S.fu S.nl 0) := by rw [g2.i (by unfold yC; omega)]; exact hS.2.1
    have h16 : ∀ l, l < 8 → mI M2 16 l = i32 (cz S B l) := fun l hl => by rw [g2.i (by unfold yC; omega)]; exact hS.2.2.1 l hl
    have hE := yrE_ok hW sd
    have hrc := hB.2.2.2.2
    have hsz := hB.2.2.2.1
    have lt : ¬ (i32 (n : Int) ≤ i32 (i : Int)) := by simp (disch := omega) only [↓reduceIte, add_i0, cast_add1, cast_sub1, toNat120, i32_lit, i32_neg, i32_add, i32_sub, i32_mul, i32_nat, i32_le, i32_lt, i32_eq, inB_i, Int.toNat_natCast, mI_sI_eq, mI_sI_ne, mR_sR_eq, mR_sR_ne, mI_sR, mR_sI, mK_sI, mN_sI, mn_sI, mJ_sI, mK_sR, mN_sR, mn_sR, mJ_sR, mI_wI, mR_wI, mK_wI, mN_wI, mn_wI, mJ_wI, ↓bnd_of, ↓bndX_r, ↓bndX_l, ↓ap_nr, bnd_of, bndX_r, bndX_l, if_true, if_false, ite_true, ite_false, not_true_eq_false, not_false_eq_true, Nat.reduceAdd, Nat.reduceMul, Nat.reduceEqDiff, Int.reduceToNat, Int.reduceNeg, Ilt_t, Ilt_f, Ile_t, Ile_f, Ieq_t, Ieq_f, Nlt_t, Nlt_f, Nle_t, Nle_f, Neq_t, Neq_f, or_true, true_or, or_false, false_or, and_true, true_and, and_false, false_and, ne_eq, or_self, and_self, decide_true, decide_false, Bool.false_eq_true]
    have cb : ∀ l, cz S B l ≤ 120 := fun l => by have := hsz l; unfold cz; split <;> omega
    have eb : ∀ l, cnE l (yrE S sd).1 ≤ 10000000 := fun l => Nat.le_trans (cnE_le _) hE.2
    have nofit : ¬ fitS S.nl (B.apL (yrE S sd).1).inc → ∃ M2', f_X10_run_110 m 15 (i32 n) (i32 ((i + 1 : Nat) : Int)) M2 = some ((), M2') ∧ Chg y2C M M2' ∧ (yrs S (k + 1) (B, sd)).1.ok ∧ YS M2' S (yrs S (k + 1) (B, sd)).1 (vsF (yrs S (k + 1) (B, sd)).1 S.fu S.nl 0) (yrs S (k + 1) (B, sd)).2 := fun hf => by
      have e : yrs S (k + 1) (B, sd) = yrs S k (B, (yrE S sd).2) := by
        show yrs S k (yr1 S (B, sd)) = _
        congr 1
        exact if_neg hf
      rw [e]
      exact ih (i + 1) m M2 B (yrE S sd).2 (by omega) (by omega) gg2 hB ⟨h0, h1, h16, w2.1⟩
    by_cases c30 : 30 ≤ B.rc
    · obtain ⟨M3, e3, r3⟩ := nofit (fun q => by have : (B.apL (yrE S sd).1).rc + 1 ≤ 30 := q.1; rw [apL_rc] at this; omega)
      refine ⟨M3, ?_, r3⟩
      rw [← e3]
      conv => lhs; unfold f_X10_run_110
      rw [if_neg lt, if_pos k15, bx e2, if_pos k152, h0, if_pos (by simp (disch := omega) only [↓reduceIte, add_i0, cast_add1, cast_sub1, toNat120, i32_lit, i32_neg, i32_add, i32_sub, i32_mul, i32_nat, i32_le, i32_lt, i32_eq, inB_i, Int.toNat_natCast, mI_sI_eq, mI_sI_ne, mR_sR_eq, mR_sR_ne, mI_sR, mR_sI, mK_sI, mN_sI, mn_sI, mJ_sI, mK_sR, mN_sR, mn_sR, mJ_sR, mI_wI, mR_wI, mK_wI, mN_wI, mn_wI, mJ_wI, ↓bnd_of, ↓bndX_r, ↓bndX_l, ↓ap_nr, bnd_of, bndX_r, bndX_l, if_true, if_false, ite_true, ite_false, not_true_eq_false, not_false_eq_true, Nat.reduceAdd, Nat.reduceMul, Nat.reduceEqDiff, Int.reduceToNat, Int.reduceNeg, Ilt_t, Ilt_f, Ile_t, Ile_f, Ieq_t, Ieq_f, Nlt_t, Nlt_f, Nle_t, Nle_f, Neq_t, Neq_f, or_true, true_or, or_false, false_or, and_true, true_and, and_false, false_and, ne_eq, or_self, and_self, decide_true, decide_false, Bool.false_eq_true]), f_X10_run_141, k_add1]
    · have rm := X10_room2 (c := cz S B) (d := fun l => cnE l (yrE S sd).1) hL2 h16 w2.2.2 (fun l hl => by have := cb l; have := eb l; omega) 8 0 FUEL (by omega) (by unfold FUEL; omega)
      have rm : ((∀ l, 0 ≤ l → l < 8 → cz S B l + cnE l (yrE S sd).1 ≤ 120) → f_X10_hasRoom 15 M2 = some (i32 1, M2)) ∧ ((¬ ∀ l, 0 ≤ l → l < 8 → cz S B l + cnE l (yrE S sd).1 ≤ 120) → f_X10_hasRoom 15 M2 = some (i32 0, M2)) := rm
      have lt30 : ¬ ((30 : Int32) ≤ i32 (B.rc : Int)) := by simp (disch := omega) only [↓reduceIte, add_i0, cast_add1, cast_sub1, toNat120, i32_lit, i32_neg, i32_add, i32_sub, i32_mul, i32_nat, i32_le, i32_lt, i32_eq, inB_i, Int.toNat_natCast, mI_sI_eq, mI_sI_ne, mR_sR_eq, mR_sR_ne, mI_sR, mR_sI, mK_sI, mN_sI, mn_sI, mJ_sI, mK_sR, mN_sR, mn_sR, mJ_sR, mI_wI, mR_wI, mK_wI, mN_wI, mn_wI, mJ_wI, ↓bnd_of, ↓bndX_r, ↓bndX_l, ↓ap_nr, bnd_of, bndX_r, bndX_l, if_true, if_false, ite_true, ite_false, not_true_eq_false, not_false_eq_true, Nat.reduceAdd, Nat.reduceMul, Nat.reduceEqDiff, Int.reduceToNat, Int.reduceNeg, Ilt_t, Ilt_f, Ile_t, Ile_f, Ieq_t, Ieq_f, Nlt_t, Nlt_f, Nle_t, Nle_f, Neq_t, Neq_f, or_true, true_or, or_false, false_or, and_true, true_and, and_false, false_and, ne_eq, or_self, and_self, decide_true, decide_false, Bool.false_eq_true]
      by_cases cf : ∀ l, 0 ≤ l → l < 8 → cz S B l + cnE l (yrE S sd).1 ≤ 120
      · have er := rm.1 cf
        have fit : fitS S.nl (B.apL (yrE S sd).1).inc := ⟨by show (B.apL (yrE S sd).1).rc + 1 ≤ 30; rw [apL_rc]; omega, fun l hl => by
          show (B.apL (yrE S sd).1).sz l ≤ 120
          have := cf l (by omega) (by omega)
          have e : cz S B l = B.sz l := if_pos hl
          rw [apL_sz]
          omega⟩
        have e : yrs S (k + 1) (B, sd) = yrs S k ((B.apL (yrE S sd).1).inc, (yrE S sd).2) := by
          show yrs S k (yr1 S (B, sd)) = _
          congr 1
          exact if_pos fit
        have hB' : (B.apL (yrE S sd).1).inc.ok := by
          have := yr1_ok (p := (B, sd)) hW hB (fun l _ => hsz l)
          have e2 : yr1 S (B, sd) = ((B.apL (yrE S sd).1).inc, (yrE S sd).2) := if_pos fit
          rw [e2] at this
          exact this
        have x0 : mI M2 15 0 + (1 : Int32) = i32 ((B.rc + 1 : Nat) : Int) := by rw [h0, k_add1]
        have x1 : mI (sI M2 15 0 (i32 ((B.rc + 1 : Nat) : Int))) 15 1 + mI (sI M2 15 0 (i32 ((B.rc + 1 : Nat) : Int))) 15 4 = i32 (vsF B S.fu S.nl 0 + smE (yrE S sd).1) := by
          rw [mI_sI_ne (by omega), mI_sI_ne (by omega), h1, w2.2.1, i32_add]
        obtain ⟨M3, em3⟩ : ∃ M3, sI (sI M2 15 0 (i32 ((B.rc + 1 : Nat) : Int))) 15 1 (i32 (vsF B S.fu S.nl 0 + smE (yrE S sd).1)) = M3 := ⟨_, rfl⟩
        have g3 : Chg y2C M2 M3 := by
          rw [← em3]
          exact ((Chg.rf y2C M2).sI (by unfold y2C; omega)).sI (by unfold y2C; omega)
        obtain ⟨M4, e4, g4, w4⟩ := X10_take25 (c := cz S B) (d := fun l => cnE l (yrE S sd).1) 8 0 FUEL M3 (by omega) (by unfold FUEL; omega) (hL2.all g3) (fun l hl => by omega) (fun l _ hl => by rw [← em3, mI_sI_ne (by omega), mI_sI_ne (by omega)]; exact h16 l hl) (fun l hl => by rw [← em3, mI_sI_ne (by omega), mI_sI_ne (by omega)]; exact w2.2.2 l hl)
        have g24 : Chg y2C M2 M4 := g3.tr (g4.mono (fun a j q => by unfold y2C; omega))
        have et : f_X10_takeRecord 15 M2 = some ((), M4) := by
          unfold f_X10_takeRecord
          rw [if_pos k152, x0, ap_of, if_pos (by exact k152), x1, ap_of, em3]
          exact e4
        have ys : YS M4 S (B.apL (yrE S sd).1).inc (vsF (B.apL (yrE S sd).1).inc S.fu S.nl 0) (yrE S sd).2 := by
          refine ⟨?_, ?_, fun l hl => ?_, ?_⟩
          · rw [g4.i (by omega), ← em3, mI_sI_ne (by omega), mI_sI_eq]
            show _ = i32 (((B.apL (yrE S sd).1).rc + 1 : Nat) : Int)
            rw [apL_rc]
          · rw [g4.i (by omega), ← em3, mI_sI_eq]
            rw [vsF_inc, vsF_apL _ _ hE.1]
          · rw [w4 l hl]
            congr 2
            unfold cz
            by_cases q : l < S.nl
            · rw [if_pos q, if_pos q]
              show _ = (B.apL (yrE S sd).1).sz l
              rw [apL_sz]
            · rw [if_neg q, if_neg q, cnE_ge (by omega) _ hE.1]
          · rw [g4.i (by omega), ← em3, mI_sI_ne (by omega), mI_sI_ne (by omega)]
            exact w2.1
        rw [e]
        obtain ⟨M5, e5, r5⟩ := ih (i + 1) m M4 _ (yrE S sd).2 (by omega) (by omega) (gg2.tr g24) hB' ys
        refine ⟨M5, ?_, r5⟩
        rw [← e5]
        have nz : ¬ (i32 1 = i32 0) := i32_ne (by omega) (by omega) (by omega) (by omega) (by omega)
        conv => lhs; unfold f_X10_run_110
        rw [if_neg lt, if_pos k15, bx e2, if_pos k152, h0, if_neg lt30, bx er, if_neg (by exact nz), if_pos k152, bx et, f_X10_run_141, k_add1]
      · have er := rm.2 cf
        obtain ⟨M3, e3, r3⟩ := nofit (fun q => cf (fun l _ hl => by
          by_cases w : l < S.nl
          · have e : cz S B l = B.sz l := if_pos w
            have := q.2 l w
            have e2 : (B.apL (yrE S sd).1).inc.sz l = (B.apL (yrE S sd).1).sz l := rfl
            rw [e2, apL_sz] at this
            omega
          · have e : cz S B l = 0 := if_neg w
            have := cnE_ge (S := S) (l := l) (by omega) _ hE.1
            omega))
        refine ⟨M3, ?_, r3⟩
        rw [← e3]
        conv => lhs; unfold f_X10_run_110
        rw [if_neg lt, if_pos k15, bx e2, if_pos k152, h0, if_neg lt30, bx er, if_pos (by rfl), f_X10_run_141, k_add1]
end
