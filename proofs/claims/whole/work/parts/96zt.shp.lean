/-! schema, view in the class: names, leaves -/
section
variable {M : Mem} {S T : Sc} {s q : Nat} {tb : Nat → Int} {n : Nat}
theorem X9_width (hL : CLay M) {e : Nat} (he : e ≤ n) (hk : CTk M tb n e) : f_X9_width 2 M = some (i32 ((tkE tb n e - tkB tb n e : Nat) : Int), M) := by
  have k2 : mK M 2 = 10 := by simp only [hL.o]
  have t := tk_b tb he
  unfold f_X9_width
  rw [if_pos k2, hk.2.1, hk.2.2, i32_sub, show ((tkE tb n e : Nat) : Int) - ((tkB tb n e : Nat) : Int) = ((tkE tb n e - tkB tb n e : Nat) : Int) by omega]
theorem X5_put2 {f L b e : Nat} (hf : f < 16) (hL4 : L ≤ 4) (q1 : 88 ≤ q) (he : e ≤ n) (hb : tkB tb n e = b) (hw : tkE tb n e - tkB tb n e = L) : ∀ (k i m : Nat) (M1 : Mem), i + k = L → k < m → CLay M1 → ShLay M1 q → TXc M1 tb n → CTk M1 tb n e → mI M1 (q + 6) f = i32 i → (∀ j, j < i → mI M1 (q + 7) (4 * f + j) = i32 (tb (b + j))) → ∃ M', f_X5_putName_2 m q (i32 f) 2 (i32 i) M1 = some ((), M') ∧ Chg (fun a j => (a = q + 6 ∧ j = f) ∨ (a = q + 7 ∧ 4 * f ≤ j ∧ j < 4 * f + 4)) M1 M' ∧ mI M' (q + 6) f = i32 L ∧ ∀ j, j < L → mI M' (q + 7) (4 * f + j) = i32 (tb (b + j)) := by
  intro k
  induction k with
  | zero =>
    intro i m M1 hi hm hL hq hT hk h6 h7
    obtain ⟨m, rfl⟩ : ∃ q, m = q + 1 := ⟨m - 1, by omega⟩
    have k2 : mK M1 2 = 10 := by simp only [hL.o]
    have ew := X9_width hL he hk
    rw [hw] at ew
    have hi' : i = L := by omega
    subst hi'
    refine ⟨M1, ?_, Chg.rf _ M1, h6, h7⟩
    unfold f_X5_putName_2
    rw [if_pos k2, bx ew, if_pos (by simp (disch := omega) only [↓reduceIte, add_i0, cast_add1, cast_sub1, toNat120, i32_lit, i32_neg, i32_add, i32_sub, i32_mul, i32_nat, i32_le, i32_lt, i32_eq, inB_i, Int.toNat_natCast, mI_sI_eq, mI_sI_ne, mR_sR_eq, mR_sR_ne, mI_sR, mR_sI, mK_sI, mN_sI, mn_sI, mJ_sI, mK_sR, mN_sR, mn_sR, mJ_sR, mI_wI, mR_wI, mK_wI, mN_wI, mn_wI, mJ_wI, ↓bnd_of, ↓bndX_r, ↓bndX_l, ↓ap_nr, bnd_of, bndX_r, bndX_l, if_true, if_false, ite_true, ite_false, not_true_eq_false, not_false_eq_true, Nat.reduceAdd, Nat.reduceMul, Nat.reduceEqDiff, Int.reduceToNat, Int.reduceNeg, Ilt_t, Ilt_f, Ile_t, Ile_f, Ieq_t, Ieq_f, Nlt_t, Nlt_f, Nle_t, Nle_f, Neq_t, Neq_f, or_true, true_or, or_false, false_or, and_true, true_and, and_false, false_and, ne_eq, or_self, and_self, decide_true, decide_false, Bool.false_eq_true])]
  | succ k ih =>
    intro i m M1 hi hm hL hq hT hk h6 h7
    obtain ⟨m, rfl⟩ : ∃ q, m = q + 1 := ⟨m - 1, by omega⟩
    have t := tk_b tb he
    have hn := hT.2.2.1
    have k2 : mK M1 2 = 10 := by simp only [hL.o]
    have r20 : mR M1 2 0 = 3 := by simp only [hL.o]
    have k3 : mK M1 3 = 21 := by simp only [hL.o]
    have n3 : mN M1 3 = 700 := by simp only [hL.o]
    have kq : mK M1 q = 6 := by simp only [hq.o]
    have r8 : mR M1 q 8 = q + 7 := by simp only [hq.o]
    have k7 : mK M1 (q + 7) = 21 := by simp only [hq.o]
    have n7 : mN M1 (q + 7) = 64 := by simp only [hq.o]
    have r7 : mR M1 q 7 = q + 6 := by simp only [hq.o]
    have k6 : mK M1 (q + 6) = 21 := by simp only [hq.o]
    have n6 : mN M1 (q + 6) = 16 := by simp only [hq.o]
    have ew := X9_width hL he hk
    rw [hw] at ew
    have ltL : ¬ (i32 (L : Int) ≤ i32 (i : Int)) := by simp (disch := omega) only [↓reduceIte, add_i0, cast_add1, cast_sub1, toNat120, i32_lit, i32_neg, i32_add, i32_sub, i32_mul, i32_nat, i32_le, i32_lt, i32_eq, inB_i, Int.toNat_natCast, mI_sI_eq, mI_sI_ne, mR_sR_eq, mR_sR_ne, mI_sR, mR_sI, mK_sI, mN_sI, mn_sI, mJ_sI, mK_sR, mN_sR, mn_sR, mJ_sR, mI_wI, mR_wI, mK_wI, mN_wI, mn_wI, mJ_wI, ↓bnd_of, ↓bndX_r, ↓bndX_l, ↓ap_nr, bnd_of, bndX_r, bndX_l, if_true, if_false, ite_true, ite_false, not_true_eq_false, not_false_eq_true, Nat.reduceAdd, Nat.reduceMul, Nat.reduceEqDiff, Int.reduceToNat, Int.reduceNeg, Ilt_t, Ilt_f, Ile_t, Ile_f, Ieq_t, Ieq_f, Nlt_t, Nlt_f, Nle_t, Nle_f, Neq_t, Neq_f, or_true, true_or, or_false, false_or, and_true, true_and, and_false, false_and, ne_eq, or_self, and_self, decide_true, decide_false, Bool.false_eq_true]
    have lt4 : ¬ ((4 : Int32) ≤ i32 (i : Int)) := by simp (disch := omega) only [↓reduceIte, add_i0, cast_add1, cast_sub1, toNat120, i32_lit, i32_neg, i32_add, i32_sub, i32_mul, i32_nat, i32_le, i32_lt, i32_eq, inB_i, Int.toNat_natCast, mI_sI_eq, mI_sI_ne, mR_sR_eq, mR_sR_ne, mI_sR, mR_sI, mK_sI, mN_sI, mn_sI, mJ_sI, mK_sR, mN_sR, mn_sR, mJ_sR, mI_wI, mR_wI, mK_wI, mN_wI, mn_wI, mJ_wI, ↓bnd_of, ↓bndX_r, ↓bndX_l, ↓ap_nr, bnd_of, bndX_r, bndX_l, if_true, if_false, ite_true, ite_false, not_true_eq_false, not_false_eq_true, Nat.reduceAdd, Nat.reduceMul, Nat.reduceEqDiff, Int.reduceToNat, Int.reduceNeg, Ilt_t, Ilt_f, Ile_t, Ile_f, Ieq_t, Ieq_f, Nlt_t, Nlt_f, Nle_t, Nle_f, Neq_t, Neq_f, or_true, true_or, or_false, false_or, and_true, true_and, and_false, false_and, ne_eq, or_self, and_self, decide_true, decide_false, Bool.false_eq_true]
    have e4 : mI M1 2 4 + i32 (i : Int) = i32 ((b + i : Nat) : Int) := by
      rw [hk.2.1, hb, i32_add]
      rfl
    have in3 : inB (i32 ((b + i : Nat) : Int)) 700 = true := by simp (disch := omega) only [↓reduceIte, add_i0, cast_add1, cast_sub1, toNat120, i32_lit, i32_neg, i32_add, i32_sub, i32_mul, i32_nat, i32_le, i32_lt, i32_eq, inB_i, Int.toNat_natCast, mI_sI_eq, mI_sI_ne, mR_sR_eq, mR_sR_ne, mI_sR, mR_sI, mK_sI, mN_sI, mn_sI, mJ_sI, mK_sR, mN_sR, mn_sR, mJ_sR, mI_wI, mR_wI, mK_wI, mN_wI, mn_wI, mJ_wI, ↓bnd_of, ↓bndX_r, ↓bndX_l, ↓ap_nr, bnd_of, bndX_r, bndX_l, if_true, if_false, ite_true, ite_false, not_true_eq_false, not_false_eq_true, Nat.reduceAdd, Nat.reduceMul, Nat.reduceEqDiff, Int.reduceToNat, Int.reduceNeg, Ilt_t, Ilt_f, Ile_t, Ile_f, Ieq_t, Ieq_f, Nlt_t, Nlt_f, Nle_t, Nle_f, Neq_t, Neq_f, or_true, true_or, or_false, false_or, and_true, true_and, and_false, false_and, ne_eq, or_self, and_self, decide_true, decide_false, Bool.false_eq_true]
    have e7 : i32 (f : Int) * (4 : Int32) + i32 (i : Int) = i32 ((4 * f + i : Nat) : Int) := by
      rw [show (4 : Int32) = i32 4 from rfl, i32_mul, i32_add]
      congr 1
      omega
    have in7 : inB (i32 ((4 * f + i : Nat) : Int)) 64 = true := by simp (disch := omega) only [↓reduceIte, add_i0, cast_add1, cast_sub1, toNat120, i32_lit, i32_neg, i32_add, i32_sub, i32_mul, i32_nat, i32_le, i32_lt, i32_eq, inB_i, Int.toNat_natCast, mI_sI_eq, mI_sI_ne, mR_sR_eq, mR_sR_ne, mI_sR, mR_sI, mK_sI, mN_sI, mn_sI, mJ_sI, mK_sR, mN_sR, mn_sR, mJ_sR, mI_wI, mR_wI, mK_wI, mN_wI, mn_wI, mJ_wI, ↓bnd_of, ↓bndX_r, ↓bndX_l, ↓ap_nr, bnd_of, bndX_r, bndX_l, if_true, if_false, ite_true, ite_false, not_true_eq_false, not_false_eq_true, Nat.reduceAdd, Nat.reduceMul, Nat.reduceEqDiff, Int.reduceToNat, Int.reduceNeg, Ilt_t, Ilt_f, Ile_t, Ile_f, Ieq_t, Ieq_f, Nlt_t, Nlt_f, Nle_t, Nle_f, Neq_t, Neq_f, or_true, true_or, or_false, false_or, and_true, true_and, and_false, false_and, ne_eq, or_self, and_self, decide_true, decide_false, Bool.false_eq_true]
    have in6 : inB (i32 (f : Int)) 16 = true := by simp (disch := omega) only [↓reduceIte, add_i0, cast_add1, cast_sub1, toNat120, i32_lit, i32_neg, i32_add, i32_sub, i32_mul, i32_nat, i32_le, i32_lt, i32_eq, inB_i, Int.toNat_natCast, mI_sI_eq, mI_sI_ne, mR_sR_eq, mR_sR_ne, mI_sR, mR_sI, mK_sI, mN_sI, mn_sI, mJ_sI, mK_sR, mN_sR, mn_sR, mJ_sR, mI_wI, mR_wI, mK_wI, mN_wI, mn_wI, mJ_wI, ↓bnd_of, ↓bndX_r, ↓bndX_l, ↓ap_nr, bnd_of, bndX_r, bndX_l, if_true, if_false, ite_true, ite_false, not_true_eq_false, not_false_eq_true, Nat.reduceAdd, Nat.reduceMul, Nat.reduceEqDiff, Int.reduceToNat, Int.reduceNeg, Ilt_t, Ilt_f, Ile_t, Ile_f, Ieq_t, Ieq_f, Nlt_t, Nlt_f, Nle_t, Nle_f, Neq_t, Neq_f, or_true, true_or, or_false, false_or, and_true, true_and, and_false, false_and, ne_eq, or_self, and_self, decide_true, decide_false, Bool.false_eq_true]
    have ev : mI M1 3 (b + i) = i32 (tb (b + i)) := hT.2.1 (b + i) (by omega)
    obtain ⟨M2, em⟩ : ∃ M2, sI (sI M1 (q + 7) (4 * f + i) (i32 (tb (b + i)))) (q + 6) f (i32 ((i + 1 : Nat) : Int)) = M2 := ⟨_, rfl⟩
    have g2 : Chg (fun a j => (a = q + 6 ∧ j = f) ∨ (a = q + 7 ∧ 4 * f ≤ j ∧ j < 4 * f + 4)) M1 M2 := by
      rw [← em]
      exact ((Chg.rf _ M1).sI (by omega)).sI (by omega)
    obtain ⟨M3, e3, g3, w1, w2⟩ := ih (i + 1) m M2 (by omega) (by omega) (hL.all g2) (hq.all g2) (hT.chg g2 (by omega) (fun i => by omega)) (hk.cg (fun i => g2.i (by omega))) (by rw [← em]; exact mI_sI_eq) (fun j hj => by
      by_cases c : j = i
      · subst c
        rw [← em, mI_sI_ne (by omega), mI_sI_eq]
      · rw [← em, mI_sI_ne (by omega), mI_sI_ne (by omega)]
        exact h7 j (by omega))
    refine ⟨M3, ?_, g2.tr g3, w1, w2⟩
    rw [← e3]
    conv => lhs; unfold f_X5_putName_2
    rw [if_pos k2, bx ew, if_neg ltL, if_neg lt4, if_pos kq, if_pos k2, r20, if_pos k3, e4, n3, if_pos in3, r8, if_pos k7, e7, n7, if_pos in7, nat_i (by omega), nat_i (by omega), ev, ap_of, if_pos (by exact kq), mR_sI, r7, if_pos (by exact k6), mN_sI, n6, if_pos in6, nat_i (by omega), k_add1, ap_of, em]
theorem X5_putName {f L e : Nat} (hok : T.ok) (hf : f < T.nf) (hL4 : L ≤ 4) (q1 : 88 ≤ q) (he : e ≤ n) (hw : tkE tb n e - tkB tb n e = L) (hL : CLay M) (hq : ShLay M q) (hT : TXc M tb n) (hk : CTk M tb n e) (hC : CSh M q T) (h0 : T.ln f = 0) : ∃ M', f_X5_putName q (i32 f) 2 M = some ((), M') ∧ Chg (fun a _ => a = q + 6 ∨ a = q + 7) M M' ∧ CSh M' q (T.nam f L (tkB tb n e) tb) := by
  have hnf := hok.1
  obtain ⟨c0, c1, c2, c3, c4, c5, c6, c7, c8, c9, c10, c11, c12⟩ := hC
  obtain ⟨M1, e1, g1, w1, w2⟩ := X5_put2 (tb := tb) (n := n) (f := f) (L := L) (e := e) (by omega) hL4 q1 he rfl hw L 0 FUEL M (by omega) (by unfold FUEL; omega) hL hq hT hk (by rw [c7 f hf, h0]; rfl) (fun j hj => by omega)
  refine ⟨M1, e1, g1.mono (fun a j h => by omega), ?_, ?_, fun f' hf' => ?_, fun f' hf' => ?_, fun f' hf' => ?_, fun f' hf' => ?_, fun f' hf' => ?_, fun f' hf' => ?_, fun f' i hf' hi => ?_, fun f' hf' => ?_, fun f' i hf' hi => ?_, fun f' hf' => ?_, fun l hl => ?_⟩
  · rw [g1.i (by omega)]; exact c0
  · rw [g1.i (by omega)]; exact c1
  · rw [g1.i (by omega)]; exact c2 f' hf'
  · rw [g1.i (by omega)]; exact c3 f' hf'
  · rw [g1.i (by omega)]; exact c4 f' hf'
  · rw [g1.i (by omega)]; exact c5 f' hf'
  · rw [g1.i (by omega)]; exact c6 f' hf'
  · show _ = i32 (upf T.ln f (L : Int) f')
    by_cases c : f' = f
    · rw [c, upf_eq]; exact w1
    · rw [upf_ne _ _ c, g1.i (by omega)]; exact c7 f' hf'
  · have hi : (i : Int) < upf T.ln f (L : Int) f' := hi
    show _ = i32 (if 4 * f ≤ 4 * f' + i ∧ 4 * f' + i < 4 * f + L then tb (tkB tb n e + (4 * f' + i - 4 * f)) else T.nm (4 * f' + i))
    by_cases c : f' = f
    · subst c
      rw [upf_eq] at hi
      rw [if_pos (by omega), show 4 * f' + i - 4 * f' = i by omega]
      exact w2 i (by omega)
    · rw [upf_ne _ _ c] at hi
      have := hok.2.2.2.2.2.2.2.1 f'
      rw [if_neg (by omega), g1.i (by omega)]
      exact c8 f' i hf' hi
  · rw [g1.i (by omega)]; exact c9 f' hf'
  · rw [g1.i (by omega)]; exact c10 f' i hf' hi
  · rw [g1.i (by omega)]; exact c11 f' hf'
  · rw [g1.i (by omega)]; exact c12 l hl
theorem X5_hasName20 {i f : Nat} (hs : ShLay M s) (hq : ShLay M q) (hCs : CSh M s S) (hCq : CSh M q T) (hS : S.ok) (hT : T.ok) (hi : i < S.nf) (hf : f < T.nf) (hl : S.ln i = T.ln f) : ∀ (k j m : Nat), (j : Int) + k = S.ln i → k < m → f_X5_hasNameOf_20 m s (i32 i) q (i32 f) (i32 j) M = some (if smF S T i f k j = true then i32 1 else i32 0, M) := by
  have hnS := hS.1
  have hnT := hT.1
  have lb := hS.2.2.2.2.2.2.2.1 i
  have nb := hS.2.2.2.2.2.2.2.2.1
  have nb' := hT.2.2.2.2.2.2.2.2.1
  have ks : mK M s = 6 := by simp only [hs.o]
  have r7 : mR M s 7 = s + 6 := by simp only [hs.o]
  have k6 : mK M (s + 6) = 21 := by simp only [hs.o]
  have n6 : mN M (s + 6) = 16 := by simp only [hs.o]
  have r8 : mR M s 8 = s + 7 := by simp only [hs.o]
  have k7 : mK M (s + 7) = 21 := by simp only [hs.o]
  have n7 : mN M (s + 7) = 64 := by simp only [hs.o]
  have kq : mK M q = 6 := by simp only [hq.o]
  have q8 : mR M q 8 = q + 7 := by simp only [hq.o]
  have kq7 : mK M (q + 7) = 21 := by simp only [hq.o]
  have nq7 : mN M (q + 7) = 64 := by simp only [hq.o]
  have ini : inB (i32 (i : Int)) 16 = true := by simp (disch := omega) only [↓reduceIte, add_i0, cast_add1, cast_sub1, toNat120, i32_lit, i32_neg, i32_add, i32_sub, i32_mul, i32_nat, i32_le, i32_lt, i32_eq, inB_i, Int.toNat_natCast, mI_sI_eq, mI_sI_ne, mR_sR_eq, mR_sR_ne, mI_sR, mR_sI, mK_sI, mN_sI, mn_sI, mJ_sI, mK_sR, mN_sR, mn_sR, mJ_sR, mI_wI, mR_wI, mK_wI, mN_wI, mn_wI, mJ_wI, ↓bnd_of, ↓bndX_r, ↓bndX_l, ↓ap_nr, bnd_of, bndX_r, bndX_l, if_true, if_false, ite_true, ite_false, not_true_eq_false, not_false_eq_true, Nat.reduceAdd, Nat.reduceMul, Nat.reduceEqDiff, Int.reduceToNat, Int.reduceNeg, Ilt_t, Ilt_f, Ile_t, Ile_f, Ieq_t, Ieq_f, Nlt_t, Nlt_f, Nle_t, Nle_f, Neq_t, Neq_f, or_true, true_or, or_false, false_or, and_true, true_and, and_false, false_and, ne_eq, or_self, and_self, decide_true, decide_false, Bool.false_eq_true]
  have el := hCs.2.2.2.2.2.2.2.1 i hi
  intro k
  induction k with
  | zero =>
    intro j m hj hm
    obtain ⟨m, rfl⟩ : ∃ q, m = q + 1 := ⟨m - 1, by omega⟩
    unfold f_X5_hasNameOf_20
    rw [if_pos ks, r7, if_pos k6, n6, if_pos ini, nat_i (by omega), el, if_pos (by simp (disch := omega) only [↓reduceIte, add_i0, cast_add1, cast_sub1, toNat120, i32_lit, i32_neg, i32_add, i32_sub, i32_mul, i32_nat, i32_le, i32_lt, i32_eq, inB_i, Int.toNat_natCast, mI_sI_eq, mI_sI_ne, mR_sR_eq, mR_sR_ne, mI_sR, mR_sI, mK_sI, mN_sI, mn_sI, mJ_sI, mK_sR, mN_sR, mn_sR, mJ_sR, mI_wI, mR_wI, mK_wI, mN_wI, mn_wI, mJ_wI, ↓bnd_of, ↓bndX_r, ↓bndX_l, ↓ap_nr, bnd_of, bndX_r, bndX_l, if_true, if_false, ite_true, ite_false, not_true_eq_false, not_false_eq_true, Nat.reduceAdd, Nat.reduceMul, Nat.reduceEqDiff, Int.reduceToNat, Int.reduceNeg, Ilt_t, Ilt_f, Ile_t, Ile_f, Ieq_t, Ieq_f, Nlt_t, Nlt_f, Nle_t, Nle_f, Neq_t, Neq_f, or_true, true_or, or_false, false_or, and_true, true_and, and_false, false_and, ne_eq, or_self, and_self, decide_true, decide_false, Bool.false_eq_true])]
    rfl
  | succ k ih =>
    intro j m hj hm
    obtain ⟨m, rfl⟩ : ∃ q, m = q + 1 := ⟨m - 1, by omega⟩
    have lt : ¬ (i32 (S.ln i) ≤ i32 (j : Int)) := by simp (disch := omega) only [↓reduceIte, add_i0, cast_add1, cast_sub1, toNat120, i32_lit, i32_neg, i32_add, i32_sub, i32_mul, i32_nat, i32_le, i32_lt, i32_eq, inB_i, Int.toNat_natCast, mI_sI_eq, mI_sI_ne, mR_sR_eq, mR_sR_ne, mI_sR, mR_sI, mK_sI, mN_sI, mn_sI, mJ_sI, mK_sR, mN_sR, mn_sR, mJ_sR, mI_wI, mR_wI, mK_wI, mN_wI, mn_wI, mJ_wI, ↓bnd_of, ↓bndX_r, ↓bndX_l, ↓ap_nr, bnd_of, bndX_r, bndX_l, if_true, if_false, ite_true, ite_false, not_true_eq_false, not_false_eq_true, Nat.reduceAdd, Nat.reduceMul, Nat.reduceEqDiff, Int.reduceToNat, Int.reduceNeg, Ilt_t, Ilt_f, Ile_t, Ile_f, Ieq_t, Ieq_f, Nlt_t, Nlt_f, Nle_t, Nle_f, Neq_t, Neq_f, or_true, true_or, or_false, false_or, and_true, true_and, and_false, false_and, ne_eq, or_self, and_self, decide_true, decide_false, Bool.false_eq_true]
    have e1 : i32 (i : Int) * (4 : Int32) + i32 (j : Int) = i32 ((4 * i + j : Nat) : Int) := by
      rw [show (4 : Int32) = i32 4 from rfl, i32_mul, i32_add]
      congr 1
      omega
    have e2 : i32 (f : Int) * (4 : Int32) + i32 (j : Int) = i32 ((4 * f + j : Nat) : Int) := by
      rw [show (4 : Int32) = i32 4 from rfl, i32_mul, i32_add]
      congr 1
      omega
    have in1 : inB (i32 ((4 * i + j : Nat) : Int)) 64 = true := by simp (disch := omega) only [↓reduceIte, add_i0, cast_add1, cast_sub1, toNat120, i32_lit, i32_neg, i32_add, i32_sub, i32_mul, i32_nat, i32_le, i32_lt, i32_eq, inB_i, Int.toNat_natCast, mI_sI_eq, mI_sI_ne, mR_sR_eq, mR_sR_ne, mI_sR, mR_sI, mK_sI, mN_sI, mn_sI, mJ_sI, mK_sR, mN_sR, mn_sR, mJ_sR, mI_wI, mR_wI, mK_wI, mN_wI, mn_wI, mJ_wI, ↓bnd_of, ↓bndX_r, ↓bndX_l, ↓ap_nr, bnd_of, bndX_r, bndX_l, if_true, if_false, ite_true, ite_false, not_true_eq_false, not_false_eq_true, Nat.reduceAdd, Nat.reduceMul, Nat.reduceEqDiff, Int.reduceToNat, Int.reduceNeg, Ilt_t, Ilt_f, Ile_t, Ile_f, Ieq_t, Ieq_f, Nlt_t, Nlt_f, Nle_t, Nle_f, Neq_t, Neq_f, or_true, true_or, or_false, false_or, and_true, true_and, and_false, false_and, ne_eq, or_self, and_self, decide_true, decide_false, Bool.false_eq_true]
    have in2 : inB (i32 ((4 * f + j : Nat) : Int)) 64 = true := by simp (disch := omega) only [↓reduceIte, add_i0, cast_add1, cast_sub1, toNat120, i32_lit, i32_neg, i32_add, i32_sub, i32_mul, i32_nat, i32_le, i32_lt, i32_eq, inB_i, Int.toNat_natCast, mI_sI_eq, mI_sI_ne, mR_sR_eq, mR_sR_ne, mI_sR, mR_sI, mK_sI, mN_sI, mn_sI, mJ_sI, mK_sR, mN_sR, mn_sR, mJ_sR, mI_wI, mR_wI, mK_wI, mN_wI, mn_wI, mJ_wI, ↓bnd_of, ↓bndX_r, ↓bndX_l, ↓ap_nr, bnd_of, bndX_r, bndX_l, if_true, if_false, ite_true, ite_false, not_true_eq_false, not_false_eq_true, Nat.reduceAdd, Nat.reduceMul, Nat.reduceEqDiff, Int.reduceToNat, Int.reduceNeg, Ilt_t, Ilt_f, Ile_t, Ile_f, Ieq_t, Ieq_f, Nlt_t, Nlt_f, Nle_t, Nle_f, Neq_t, Neq_f, or_true, true_or, or_false, false_or, and_true, true_and, and_false, false_and, ne_eq, or_self, and_self, decide_true, decide_false, Bool.false_eq_true]
    have v1 := hCs.2.2.2.2.2.2.2.2.1 i j hi (by omega)
    have v2 := hCq.2.2.2.2.2.2.2.2.1 f j hf (by omega)
    have b1 := nb (4 * i + j)
    have b2 := nb' (4 * f + j)
    conv => lhs; unfold f_X5_hasNameOf_20
    rw [if_pos ks, r7, if_pos k6, n6, if_pos ini, nat_i (by omega), el, if_neg lt, r8, if_pos k7, e1, n7, if_pos in1, if_pos kq, q8, if_pos kq7, e2, nq7, if_pos in2, nat_i (by omega), nat_i (by omega), v1, v2]
    unfold smF
    by_cases c : S.nm (4 * i + j) = T.nm (4 * f + j)
    · rw [if_pos c, if_pos (by rw [c]), k_add1]
      exact ih (j + 1) m (by omega) (by omega)
    · have nc : ¬ (i32 (S.nm (4 * i + j)) = i32 (T.nm (4 * f + j))) := i32_ne (by omega) (by omega) (by omega) (by omega) c
      rw [if_neg c, if_neg nc]
      rfl
theorem X5_hasNameOf {i f : Nat} (hs : ShLay M s) (hq : ShLay M q) (hCs : CSh M s S) (hCq : CSh M q T) (hS : S.ok) (hT : T.ok) (hi : i < S.nf) (hf : f < T.nf) : f_X5_hasNameOf s (i32 i) q (i32 f) M = some (if smN S T i f = true then i32 1 else i32 0, M) := by
  have hnS := hS.1
  have hnT := hT.1
  have lb := hS.2.2.2.2.2.2.2.1 i
  have lb' := hT.2.2.2.2.2.2.2.1 f
  have ks : mK M s = 6 := by simp only [hs.o]
  have r7 : mR M s 7 = s + 6 := by simp only [hs.o]
  have k6 : mK M (s + 6) = 21 := by simp only [hs.o]
  have n6 : mN M (s + 6) = 16 := by simp only [hs.o]
  have kq : mK M q = 6 := by simp only [hq.o]
  have q7 : mR M q 7 = q + 6 := by simp only [hq.o]
  have kq6 : mK M (q + 6) = 21 := by simp only [hq.o]
  have nq6 : mN M (q + 6) = 16 := by simp only [hq.o]
  have ini : inB (i32 (i : Int)) 16 = true := by simp (disch := omega) only [↓reduceIte, add_i0, cast_add1, cast_sub1, toNat120, i32_lit, i32_neg, i32_add, i32_sub, i32_mul, i32_nat, i32_le, i32_lt, i32_eq, inB_i, Int.toNat_natCast, mI_sI_eq, mI_sI_ne, mR_sR_eq, mR_sR_ne, mI_sR, mR_sI, mK_sI, mN_sI, mn_sI, mJ_sI, mK_sR, mN_sR, mn_sR, mJ_sR, mI_wI, mR_wI, mK_wI, mN_wI, mn_wI, mJ_wI, ↓bnd_of, ↓bndX_r, ↓bndX_l, ↓ap_nr, bnd_of, bndX_r, bndX_l, if_true, if_false, ite_true, ite_false, not_true_eq_false, not_false_eq_true, Nat.reduceAdd, Nat.reduceMul, Nat.reduceEqDiff, Int.reduceToNat, Int.reduceNeg, Ilt_t, Ilt_f, Ile_t, Ile_f, Ieq_t, Ieq_f, Nlt_t, Nlt_f, Nle_t, Nle_f, Neq_t, Neq_f, or_true, true_or, or_false, false_or, and_true, true_and, and_false, false_and, ne_eq, or_self, and_self, decide_true, decide_false, Bool.false_eq_true]
  have inf : inB (i32 (f : Int)) 16 = true := by simp (disch := omega) only [↓reduceIte, add_i0, cast_add1, cast_sub1, toNat120, i32_lit, i32_neg, i32_add, i32_sub, i32_mul, i32_nat, i32_le, i32_lt, i32_eq, inB_i, Int.toNat_natCast, mI_sI_eq, mI_sI_ne, mR_sR_eq, mR_sR_ne, mI_sR, mR_sI, mK_sI, mN_sI, mn_sI, mJ_sI, mK_sR, mN_sR, mn_sR, mJ_sR, mI_wI, mR_wI, mK_wI, mN_wI, mn_wI, mJ_wI, ↓bnd_of, ↓bndX_r, ↓bndX_l, ↓ap_nr, bnd_of, bndX_r, bndX_l, if_true, if_false, ite_true, ite_false, not_true_eq_false, not_false_eq_true, Nat.reduceAdd, Nat.reduceMul, Nat.reduceEqDiff, Int.reduceToNat, Int.reduceNeg, Ilt_t, Ilt_f, Ile_t, Ile_f, Ieq_t, Ieq_f, Nlt_t, Nlt_f, Nle_t, Nle_f, Neq_t, Neq_f, or_true, true_or, or_false, false_or, and_true, true_and, and_false, false_and, ne_eq, or_self, and_self, decide_true, decide_false, Bool.false_eq_true]
  have el := hCs.2.2.2.2.2.2.2.1 i hi
  have el' := hCq.2.2.2.2.2.2.2.1 f hf
  unfold f_X5_hasNameOf
  rw [if_pos ks, r7, if_pos k6, n6, if_pos ini, if_pos kq, q7, if_pos kq6, nq6, if_pos inf, nat_i (by omega), nat_i (by omega), el, el']
  unfold smN
  by_cases c : S.ln i = T.ln f
  · rw [if_pos c, if_pos (by rw [c])]
    exact X5_hasName20 hs hq hCs hCq hS hT hi hf c (S.ln i).toNat 0 FUEL (by omega) (by unfold FUEL; omega)
  · have nc : ¬ (i32 (S.ln i) = i32 (T.ln f)) := i32_ne (by omega) (by omega) (by omega) (by omega) c
    rw [if_neg c, if_neg nc]
    rfl
theorem X5_named3 {f : Nat} {a : Int} (a0 : -1 ≤ a) (a16 : a ≤ 15) (hs : ShLay M s) (hq : ShLay M q) (hCs : CSh M s S) (hCq : CSh M q T) (hS : S.ok) (hT : T.ok) (hf : f < T.nf) : ∀ (k i m : Nat), i + k = S.nf → k < m → f_X5_fieldNamed_3 m s (i32 a) q (i32 f) (i32 i) M = some (i32 (fnF S T a f k i), M) := by
  have hnS := hS.1
  have ks : mK M s = 6 := by simp only [hs.o]
  have r3 : mR M s 3 = s + 2 := by simp only [hs.o]
  have k2 : mK M (s + 2) = 21 := by simp only [hs.o]
  have n2 : mN M (s + 2) = 16 := by simp only [hs.o]
  intro k
  induction k with
  | zero =>
    intro i m hi hm
    obtain ⟨m, rfl⟩ : ∃ q, m = q + 1 := ⟨m - 1, by omega⟩
    unfold f_X5_fieldNamed_3
    rw [if_pos ks, hCs.1, if_pos (by simp (disch := omega) only [↓reduceIte, add_i0, cast_add1, cast_sub1, toNat120, i32_lit, i32_neg, i32_add, i32_sub, i32_mul, i32_nat, i32_le, i32_lt, i32_eq, inB_i, Int.toNat_natCast, mI_sI_eq, mI_sI_ne, mR_sR_eq, mR_sR_ne, mI_sR, mR_sI, mK_sI, mN_sI, mn_sI, mJ_sI, mK_sR, mN_sR, mn_sR, mJ_sR, mI_wI, mR_wI, mK_wI, mN_wI, mn_wI, mJ_wI, ↓bnd_of, ↓bndX_r, ↓bndX_l, ↓ap_nr, bnd_of, bndX_r, bndX_l, if_true, if_false, ite_true, ite_false, not_true_eq_false, not_false_eq_true, Nat.reduceAdd, Nat.reduceMul, Nat.reduceEqDiff, Int.reduceToNat, Int.reduceNeg, Ilt_t, Ilt_f, Ile_t, Ile_f, Ieq_t, Ieq_f, Nlt_t, Nlt_f, Nle_t, Nle_f, Neq_t, Neq_f, or_true, true_or, or_false, false_or, and_true, true_and, and_false, false_and, ne_eq, or_self, and_self, decide_true, decide_false, Bool.false_eq_true])]
    rfl
  | succ k ih =>
    intro i m hi hm
    obtain ⟨m, rfl⟩ : ∃ q, m = q + 1 := ⟨m - 1, by omega⟩
    have lt : ¬ (i32 (S.nf : Int) ≤ i32 (i : Int)) := by simp (disch := omega) only [↓reduceIte, add_i0, cast_add1, cast_sub1, toNat120, i32_lit, i32_neg, i32_add, i32_sub, i32_mul, i32_nat, i32_le, i32_lt, i32_eq, inB_i, Int.toNat_natCast, mI_sI_eq, mI_sI_ne, mR_sR_eq, mR_sR_ne, mI_sR, mR_sI, mK_sI, mN_sI, mn_sI, mJ_sI, mK_sR, mN_sR, mn_sR, mJ_sR, mI_wI, mR_wI, mK_wI, mN_wI, mn_wI, mJ_wI, ↓bnd_of, ↓bndX_r, ↓bndX_l, ↓ap_nr, bnd_of, bndX_r, bndX_l, if_true, if_false, ite_true, ite_false, not_true_eq_false, not_false_eq_true, Nat.reduceAdd, Nat.reduceMul, Nat.reduceEqDiff, Int.reduceToNat, Int.reduceNeg, Ilt_t, Ilt_f, Ile_t, Ile_f, Ieq_t, Ieq_f, Nlt_t, Nlt_f, Nle_t, Nle_f, Neq_t, Neq_f, or_true, true_or, or_false, false_or, and_true, true_and, and_false, false_and, ne_eq, or_self, and_self, decide_true, decide_false, Bool.false_eq_true]
    have ini : inB (i32 (i : Int)) 16 = true := by simp (disch := omega) only [↓reduceIte, add_i0, cast_add1, cast_sub1, toNat120, i32_lit, i32_neg, i32_add, i32_sub, i32_mul, i32_nat, i32_le, i32_lt, i32_eq, inB_i, Int.toNat_natCast, mI_sI_eq, mI_sI_ne, mR_sR_eq, mR_sR_ne, mI_sR, mR_sI, mK_sI, mN_sI, mn_sI, mJ_sI, mK_sR, mN_sR, mn_sR, mJ_sR, mI_wI, mR_wI, mK_wI, mN_wI, mn_wI, mJ_wI, ↓bnd_of, ↓bndX_r, ↓bndX_l, ↓ap_nr, bnd_of, bndX_r, bndX_l, if_true, if_false, ite_true, ite_false, not_true_eq_false, not_false_eq_true, Nat.reduceAdd, Nat.reduceMul, Nat.reduceEqDiff, Int.reduceToNat, Int.reduceNeg, Ilt_t, Ilt_f, Ile_t, Ile_f, Ieq_t, Ieq_f, Nlt_t, Nlt_f, Nle_t, Nle_f, Neq_t, Neq_f, or_true, true_or, or_false, false_or, and_true, true_and, and_false, false_and, ne_eq, or_self, and_self, decide_true, decide_false, Bool.false_eq_true]
    have eg := hCs.2.2.2.1 i (by omega)
    have gb := hS.2.2.2.1 i
    conv => lhs; unfold f_X5_fieldNamed_3
    rw [if_pos ks, hCs.1, if_neg lt, r3, if_pos k2, n2, if_pos ini, nat_i (by omega), eg]
    unfold fnF
    by_cases c : S.gr i = a
    · have eh := X5_hasNameOf hs hq hCs hCq hS hT (i := i) (f := f) (by omega) hf
      rw [if_pos (by rw [c]), bx eh]
      by_cases w : smN S T i f = true
      · have nz : ¬ (i32 1 = i32 0) := i32_ne (by omega) (by omega) (by omega) (by omega) (by omega)
        rw [if_pos w, if_neg (by exact nz), if_pos ⟨c, w⟩]
      · rw [if_neg w, if_pos (by rfl), if_neg (fun u => w u.2), f_X5_fieldNamed_37, k_add1]
        exact ih (i + 1) m (by omega) (by omega)
    · have nc : ¬ (i32 (S.gr i) = i32 a) := i32_ne (by omega) (by omega) (by omega) (by omega) c
      rw [if_neg nc, if_neg (fun u => c u.1), f_X5_fieldNamed_37, k_add1]
      exact ih (i + 1) m (by omega) (by omega)
theorem X5_fieldNamed {f : Nat} {a : Int} (a0 : -1 ≤ a) (a16 : a ≤ 15) (hs : ShLay M s) (hq : ShLay M q) (hCs : CSh M s S) (hCq : CSh M q T) (hS : S.ok) (hT : T.ok) (hf : f < T.nf) : f_X5_fieldNamed s (i32 a) q (i32 f) M = some (i32 (fnF S T a f S.nf 0), M) := X5_named3 a0 a16 hs hq hCs hCq hS hT hf S.nf 0 FUEL (by omega) (by have := hS.1; unfold FUEL; omega)
theorem X5_leaf24 (hok : T.ok) (hn8 : T.nl < 8) : ∀ (k i m : Nat) (a : Int) (M1 : Mem), i + k = 16 → k < m → -1 ≤ a → a < T.nf → a < k → ShLay M1 q → mI M1 q 1 = i32 T.nl → (∀ f, f < T.nf → mI M1 (q + 2) f = i32 (T.gr f)) → ∃ M', f_X5_makeLeaf_24 m q (i32 a) (i32 i) M1 = f_X5_makeLeaf_63 q M' ∧ Chg (fun a _ => a = q + 9) M1 M' ∧ ∀ f j, f < T.nf → j < 32 → bt (mI M' (q + 9) f) j = (bt (mI M1 (q + 9) f) j || (decide (j = T.nl) && T.ins a f)) := by
  have hnf := hok.1
  intro k
  induction k with
  | zero =>
    intro i m a M1 hi hm a0 a1 ak hq h1 hg
    obtain ⟨m, rfl⟩ : ∃ q, m = q + 1 := ⟨m - 1, by omega⟩
    have ea : a = -1 := by omega
    subst ea
    refine ⟨M1, ?_, Chg.rf _ M1, fun f j hf hj => ?_⟩
    · unfold f_X5_makeLeaf_24
      rw [if_pos (by simp (disch := omega) only [↓reduceIte, add_i0, cast_add1, cast_sub1, toNat120, i32_lit, i32_neg, i32_add, i32_sub, i32_mul, i32_nat, i32_le, i32_lt, i32_eq, inB_i, Int.toNat_natCast, mI_sI_eq, mI_sI_ne, mR_sR_eq, mR_sR_ne, mI_sR, mR_sI, mK_sI, mN_sI, mn_sI, mJ_sI, mK_sR, mN_sR, mn_sR, mJ_sR, mI_wI, mR_wI, mK_wI, mN_wI, mn_wI, mJ_wI, ↓bnd_of, ↓bndX_r, ↓bndX_l, ↓ap_nr, bnd_of, bndX_r, bndX_l, if_true, if_false, ite_true, ite_false, not_true_eq_false, not_false_eq_true, Nat.reduceAdd, Nat.reduceMul, Nat.reduceEqDiff, Int.reduceToNat, Int.reduceNeg, Ilt_t, Ilt_f, Ile_t, Ile_f, Ieq_t, Ieq_f, Nlt_t, Nlt_f, Nle_t, Nle_f, Neq_t, Neq_f, or_true, true_or, or_false, false_or, and_true, true_and, and_false, false_and, ne_eq, or_self, and_self, decide_true, decide_false, Bool.false_eq_true])]
    · rw [Sc.ins_m1 hok, Bool.and_false, Bool.or_false]
  | succ k ih =>
    intro i m a M1 hi hm a0 a1 ak hq h1 hg
    obtain ⟨m, rfl⟩ : ∃ q, m = q + 1 := ⟨m - 1, by omega⟩
    have lt : ¬ ((16 : Int32) ≤ i32 (i : Int)) := by simp (disch := omega) only [↓reduceIte, add_i0, cast_add1, cast_sub1, toNat120, i32_lit, i32_neg, i32_add, i32_sub, i32_mul, i32_nat, i32_le, i32_lt, i32_eq, inB_i, Int.toNat_natCast, mI_sI_eq, mI_sI_ne, mR_sR_eq, mR_sR_ne, mI_sR, mR_sI, mK_sI, mN_sI, mn_sI, mJ_sI, mK_sR, mN_sR, mn_sR, mJ_sR, mI_wI, mR_wI, mK_wI, mN_wI, mn_wI, mJ_wI, ↓bnd_of, ↓bndX_r, ↓bndX_l, ↓ap_nr, bnd_of, bndX_r, bndX_l, if_true, if_false, ite_true, ite_false, not_true_eq_false, not_false_eq_true, Nat.reduceAdd, Nat.reduceMul, Nat.reduceEqDiff, Int.reduceToNat, Int.reduceNeg, Ilt_t, Ilt_f, Ile_t, Ile_f, Ieq_t, Ieq_f, Nlt_t, Nlt_f, Nle_t, Nle_f, Neq_t, Neq_f, or_true, true_or, or_false, false_or, and_true, true_and, and_false, false_and, ne_eq, or_self, and_self, decide_true, decide_false, Bool.false_eq_true]
    by_cases c : a = -1
    · subst c
      refine ⟨M1, ?_, Chg.rf _ M1, fun f j hf hj => ?_⟩
      · unfold f_X5_makeLeaf_24
        rw [if_neg lt, if_pos (by rfl)]
      · rw [Sc.ins_m1 hok, Bool.and_false, Bool.or_false]
    · obtain ⟨p, rfl⟩ : ∃ p : Nat, a = p := ⟨a.toNat, by omega⟩
      have kq : mK M1 q = 6 := by simp only [hq.o]
      have r10 : mR M1 q 10 = q + 9 := by simp only [hq.o]
      have k9 : mK M1 (q + 9) = 21 := by simp only [hq.o]
      have n9 : mN M1 (q + 9) = 16 := by simp only [hq.o]
      have r3 : mR M1 q 3 = q + 2 := by simp only [hq.o]
      have k2 : mK M1 (q + 2) = 21 := by simp only [hq.o]
      have n2 : mN M1 (q + 2) = 16 := by simp only [hq.o]
      have nm : ¬ (i32 (p : Int) = i32 (-1)) := i32_ne (by omega) (by omega) (by omega) (by omega) (by omega)
      have inp : inB (i32 (p : Int)) 16 = true := by simp (disch := omega) only [↓reduceIte, add_i0, cast_add1, cast_sub1, toNat120, i32_lit, i32_neg, i32_add, i32_sub, i32_mul, i32_nat, i32_le, i32_lt, i32_eq, inB_i, Int.toNat_natCast, mI_sI_eq, mI_sI_ne, mR_sR_eq, mR_sR_ne, mI_sR, mR_sI, mK_sI, mN_sI, mn_sI, mJ_sI, mK_sR, mN_sR, mn_sR, mJ_sR, mI_wI, mR_wI, mK_wI, mN_wI, mn_wI, mJ_wI, ↓bnd_of, ↓bndX_r, ↓bndX_l, ↓ap_nr, bnd_of, bndX_r, bndX_l, if_true, if_false, ite_true, ite_false, not_true_eq_false, not_false_eq_true, Nat.reduceAdd, Nat.reduceMul, Nat.reduceEqDiff, Int.reduceToNat, Int.reduceNeg, Ilt_t, Ilt_f, Ile_t, Ile_f, Ieq_t, Ieq_f, Nlt_t, Nlt_f, Nle_t, Nle_f, Neq_t, Neq_f, or_true, true_or, or_false, false_or, and_true, true_and, and_false, false_and, ne_eq, or_self, and_self, decide_true, decide_false, Bool.false_eq_true]
      have gp := hg p (by omega)
      have gb := hok.2.2.2.1 p
      obtain ⟨M2, em⟩ : ∃ M2, sI M1 (q + 9) p (mI M1 (q + 9) p ||| ((1 : Int32) <<< (i32 (T.nl : Int) &&& 31))) = M2 := ⟨_, rfl⟩
      have g2 : Chg (fun a _ => a = q + 9) M1 M2 := by rw [← em]; exact (Chg.rf _ M1).sI rfl
      have gp2 : mI M2 (q + 2) p = i32 (T.gr p) := by rw [g2.i (by omega)]; exact gp
      obtain ⟨M3, e3, g3, w3⟩ := ih (i + 1) m (T.gr p) M2 (by omega) (by omega) gb.1 (by omega) (by omega) (hq.all g2) (by rw [g2.i (by omega)]; exact h1) (fun f hf => by rw [g2.i (by omega)]; exact hg f hf)
      refine ⟨M3, ?_, g2.tr g3, fun f j hf hj => ?_⟩
      · rw [← e3]
        conv => lhs; unfold f_X5_makeLeaf_24
        rw [if_neg lt, if_neg (by exact nm), if_pos kq, r10, if_pos k9, n9, if_pos inp, nat_i (by omega), h1, ap_of, em, if_pos (by rw [g2.1]; exact kq), g2.r, r3, if_pos (by rw [g2.1]; exact k2), g2.2.1, n2, if_pos inp, gp2, k_add1]
      · rw [w3 f j hf hj]
        have ie := Sc.ins_eq hok (k := (p : Int)) (by omega) (by omega) f
        rw [Int.toNat_natCast] at ie
        by_cases u : f = p
        · subst u
          have iself := Sc.ins_self hok (k := f) (by omega)
          rw [← em, mI_sI_eq, bt_or, bt_shl1 hn8 hj, iself, Bool.and_true]
          cases bt (mI M1 (q + 9) f) j <;> cases decide (j = T.nl) <;> cases T.ins (T.gr f) f <;> rfl
        · rw [← em, mI_sI_ne (by omega)]
          have : T.ins (p : Int) f = T.ins (T.gr p) f := by
            cases h1 : T.ins (T.gr p) f
            · cases h2 : T.ins (p : Int) f
              · rfl
              · rcases ie.mp h2 with v | v
                · omega
                · rw [h1] at v
                  exact absurd v.2 (by decide)
            · exact ie.mpr (Or.inr ⟨by omega, h1⟩)
          rw [this]
theorem X5_makeLeaf {f : Nat} (hok : T.ok) (hf : f < T.nf) (hn8 : T.nl < 8) (hq : ShLay M q) (hC : CSh M q T) : ∃ M', f_X5_makeLeaf q (i32 f) M = some ((), M') ∧ Chg (fun a _ => q ≤ a ∧ a ≤ q + 11) M M' ∧ CSh M' q (T.lea f) := by
  have hnf := hok.1
  obtain ⟨c0, c1, c2, c3, c4, c5, c6, c7, c8, c9, c10, c11, c12⟩ := hC
  have kq : mK M q = 6 := by simp only [hq.o]
  have r4 : mR M q 4 = q + 3 := by simp only [hq.o]
  have k3 : mK M (q + 3) = 21 := by simp only [hq.o]
  have n3 : mN M (q + 3) = 16 := by simp only [hq.o]
  have r12 : mR M q 12 = q + 11 := by simp only [hq.o]
  have k11 : mK M (q + 11) = 21 := by simp only [hq.o]
  have n11 : mN M (q + 11) = 8 := by simp only [hq.o]
  have inf : inB (i32 (f : Int)) 16 = true := by simp (disch := omega) only [↓reduceIte, add_i0, cast_add1, cast_sub1, toNat120, i32_lit, i32_neg, i32_add, i32_sub, i32_mul, i32_nat, i32_le, i32_lt, i32_eq, inB_i, Int.toNat_natCast, mI_sI_eq, mI_sI_ne, mR_sR_eq, mR_sR_ne, mI_sR, mR_sI, mK_sI, mN_sI, mn_sI, mJ_sI, mK_sR, mN_sR, mn_sR, mJ_sR, mI_wI, mR_wI, mK_wI, mN_wI, mn_wI, mJ_wI, ↓bnd_of, ↓bndX_r, ↓bndX_l, ↓ap_nr, bnd_of, bndX_r, bndX_l, if_true, if_false, ite_true, ite_false, not_true_eq_false, not_false_eq_true, Nat.reduceAdd, Nat.reduceMul, Nat.reduceEqDiff, Int.reduceToNat, Int.reduceNeg, Ilt_t, Ilt_f, Ile_t, Ile_f, Ieq_t, Ieq_f, Nlt_t, Nlt_f, Nle_t, Nle_f, Neq_t, Neq_f, or_true, true_or, or_false, false_or, and_true, true_and, and_false, false_and, ne_eq, or_self, and_self, decide_true, decide_false, Bool.false_eq_true]
  have inl : inB (i32 (T.nl : Int)) 8 = true := by simp (disch := omega) only [↓reduceIte, add_i0, cast_add1, cast_sub1, toNat120, i32_lit, i32_neg, i32_add, i32_sub, i32_mul, i32_nat, i32_le, i32_lt, i32_eq, inB_i, Int.toNat_natCast, mI_sI_eq, mI_sI_ne, mR_sR_eq, mR_sR_ne, mI_sR, mR_sI, mK_sI, mN_sI, mn_sI, mJ_sI, mK_sR, mN_sR, mn_sR, mJ_sR, mI_wI, mR_wI, mK_wI, mN_wI, mn_wI, mJ_wI, ↓bnd_of, ↓bndX_r, ↓bndX_l, ↓ap_nr, bnd_of, bndX_r, bndX_l, if_true, if_false, ite_true, ite_false, not_true_eq_false, not_false_eq_true, Nat.reduceAdd, Nat.reduceMul, Nat.reduceEqDiff, Int.reduceToNat, Int.reduceNeg, Ilt_t, Ilt_f, Ile_t, Ile_f, Ieq_t, Ieq_f, Nlt_t, Nlt_f, Nle_t, Nle_f, Neq_t, Neq_f, or_true, true_or, or_false, false_or, and_true, true_and, and_false, false_and, ne_eq, or_self, and_self, decide_true, decide_false, Bool.false_eq_true]
  obtain ⟨M1, em⟩ : ∃ M1, sI (sI M (q + 3) f (i32 (T.nl : Int))) (q + 11) T.nl (i32 (f : Int)) = M1 := ⟨_, rfl⟩
  have g1 : Chg (fun a _ => a = q + 3 ∨ a = q + 11) M M1 := by
    rw [← em]
    exact ((Chg.rf _ M).sI (Or.inl rfl)).sI (Or.inr rfl)
  have c1' : mI (sI M (q + 3) f (i32 (T.nl : Int))) q 1 = i32 T.nl := by rw [mI_sI_ne (by omega)]; exact c1
  obtain ⟨M2, e2, g2, w2⟩ := X5_leaf24 (q := q) hok hn8 16 0 FUEL (f : Int) M1 (by omega) (by unfold FUEL; omega) (by omega) (by omega) (by omega) (hq.all g1) (by rw [g1.i (by omega)]; exact c1) (fun f' hf' => by rw [g1.i (by omega)]; exact c3 f' hf')
  have e2 : f_X5_makeLeaf_24 FUEL q (i32 (f : Int)) (0 : Int32) M1 = _ := e2
  have hq2 := (hq.all g1).all g2
  have kq2 : mK M2 q = 6 := by simp only [hq2.o]
  have c12' : mI M2 q 1 = i32 T.nl := by rw [g2.i (by omega), g1.i (by omega)]; exact c1
  obtain ⟨M3, em3⟩ : ∃ M3, sI M2 q 1 (i32 ((T.nl + 1 : Nat) : Int)) = M3 := ⟨_, rfl⟩
  have g3 : Chg (fun a j => a = q ∧ j = 1) M2 M3 := by rw [← em3]; exact (Chg.rf _ M2).sI ⟨rfl, rfl⟩
  refine ⟨M3, ?_, (g1.mono (fun a j h => by omega)).tr ((g2.mono (fun a j h => by omega)).tr (g3.mono (fun a j h => by omega))), ?_, ?_, fun f' hf' => ?_, fun f' hf' => ?_, fun f' hf' => ?_, fun f' hf' => ?_, fun f' hf' => ?_, fun f' hf' => ?_, fun f' i hf' hi => ?_, fun f' hf' => ?_, fun f' i hf' hi => ?_, fun f' hf' => ?_, fun l hl => ?_⟩
  · unfold f_X5_makeLeaf
    rw [if_pos kq, r4, if_pos k3, n3, if_pos inf, c1, nat_i (by omega), ap_of, if_pos (by exact kq), mR_sI, r12, if_pos (by exact k11), c1', mN_sI, n11, if_pos inl, nat_i (by omega), ap_of, em, e2]
    unfold f_X5_makeLeaf_63
    rw [if_pos kq2, c12', k_add1, ap_of, em3]
  · rw [g3.i (by omega), g2.i (by omega), g1.i (by omega)]; exact c0
  · rw [← em3, mI_sI_eq]; rfl
  · rw [g3.i (by omega), g2.i (by omega), g1.i (by omega)]; exact c2 f' hf'
  · rw [g3.i (by omega), g2.i (by omega), g1.i (by omega)]; exact c3 f' hf'
  · rw [g3.i (by omega), g2.i (by omega)]
    show _ = i32 (upf T.lf f (T.nl : Int) f')
    by_cases c : f' = f
    · rw [c, upf_eq, ← em, mI_sI_ne (by omega), mI_sI_eq]
    · rw [upf_ne _ _ c, ← em, mI_sI_ne (by omega), mI_sI_ne (by omega)]; exact c4 f' hf'
  · rw [g3.i (by omega), g2.i (by omega), g1.i (by omega)]; exact c5 f' hf'
  · rw [g3.i (by omega), g2.i (by omega), g1.i (by omega)]; exact c6 f' hf'
  · rw [g3.i (by omega), g2.i (by omega), g1.i (by omega)]; exact c7 f' hf'
  · rw [g3.i (by omega), g2.i (by omega), g1.i (by omega)]; exact c8 f' i hf' hi
  · rw [g3.i (by omega), g2.i (by omega), g1.i (by omega)]; exact c9 f' hf'
  · rw [g3.i (by omega), w2 f' i hf' hi, g1.i (by omega), c10 f' i hf' hi]
    show ((decide (i < T.nl) && T.ins (T.fo i) f') || (decide (i = T.nl) && T.ins f f')) = (decide (i < T.nl + 1) && T.ins ((upf T.fo T.nl f i : Nat) : Int) f')
    by_cases c : i = T.nl
    · rw [decide_eq_false (show ¬ i < T.nl by omega), decide_eq_true c, decide_eq_true (show i < T.nl + 1 by omega), c, upf_eq, Bool.false_and, Bool.false_or]
    · rw [upf_ne _ _ c, decide_eq_false c, Bool.false_and, Bool.or_false]
      by_cases u : i < T.nl
      · rw [decide_eq_true u, decide_eq_true (show i < T.nl + 1 by omega)]
      · rw [decide_eq_false u, decide_eq_false (show ¬ i < T.nl + 1 by omega)]
  · rw [g3.i (by omega), g2.i (by omega), g1.i (by omega)]; exact c11 f' hf'
  · rw [g3.i (by omega), g2.i (by omega)]
    show _ = i32 ((upf T.fo T.nl f l : Nat) : Int)
    by_cases c : l = T.nl
    · rw [c, upf_eq, ← em, mI_sI_eq]
    · have hl : l < T.nl + 1 := hl
      rw [upf_ne _ _ c, ← em, mI_sI_ne (by omega), mI_sI_ne (by omega)]; exact c12 l (by omega)
/-- a twin is noted -/
theorem CSh_twi {f : Nat} {v : Int} (hC : CSh M q T) : CSh (sI M (q + 10) f (i32 v)) q (T.twi f v) := by
  obtain ⟨c0, c1, c2, c3, c4, c5, c6, c7, c8, c9, c10, c11, c12⟩ := hC
  refine ⟨?_, ?_, fun f' hf' => ?_, fun f' hf' => ?_, fun f' hf' => ?_, fun f' hf' => ?_, fun f' hf' => ?_, fun f' hf' => ?_, fun f' i hf' hi => ?_, fun f' hf' => ?_, fun f' i hf' hi => ?_, fun f' hf' => ?_, fun l hl => ?_⟩
  · rw [mI_sI_ne (by omega)]; exact c0
  · rw [mI_sI_ne (by omega)]; exact c1
  · rw [mI_sI_ne (by omega)]; exact c2 f' hf'
  · rw [mI_sI_ne (by omega)]; exact c3 f' hf'
  · rw [mI_sI_ne (by omega)]; exact c4 f' hf'
  · rw [mI_sI_ne (by omega)]; exact c5 f' hf'
  · rw [mI_sI_ne (by omega)]; exact c6 f' hf'
  · rw [mI_sI_ne (by omega)]; exact c7 f' hf'
  · rw [mI_sI_ne (by omega)]; exact c8 f' i hf' hi
  · rw [mI_sI_ne (by omega)]; exact c9 f' hf'
  · rw [mI_sI_ne (by omega)]; exact c10 f' i hf' hi
  · show _ = i32 (upf T.tw f v f')
    by_cases c : f' = f
    · rw [c, upf_eq, mI_sI_eq]
    · rw [upf_ne _ _ c, mI_sI_ne (by omega)]; exact c11 f' hf'
  · rw [mI_sI_ne (by omega)]; exact c12 l hl
end
