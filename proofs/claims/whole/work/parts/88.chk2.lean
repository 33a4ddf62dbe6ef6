/-! CHECK, whole, on both sides -/
theorem i32_ne {a b : Int} (h1 : -2147483648 ≤ a) (h2 : a ≤ 2147483647) (h3 : -2147483648 ≤ b) (h4 : b ≤ 2147483647) (h : a ≠ b) : i32 a ≠ i32 b := fun q => h (by rwa [i32_eq h1 h2 h3 h4] at q)
theorem chkL_b (S : Sc) (A : St) (hA : A.ok) (l : Nat) : 0 ≤ (chkL S A l).1 ∧ (chkL S A l).1 ≤ 5 ∧ -1 ≤ (chkL S A l).2 ∧ (chkL S A l).2 ≤ 120 := by
  have h1 := colW_b (wrongS S A l) (wrongS_b S A l) (A.sz l) 0
  have h2 := ulC_b S A l (A.sz l) 0 (behF (A.rp (l - 1)) (S.lev l (l - 1)) (A.sz (l - 1)) 0)
  have h3 := hA.2.2.2.1 l
  have h4 : unlS S A l = ulC S A l (A.sz l) 0 (behF (A.rp (l - 1)) (S.lev l (l - 1)) (A.sz (l - 1)) 0) := rfl
  unfold chkL
  repeat' split
  · omega
  · simp only []; omega
  · simp only []; omega
  · simp only []; omega
theorem chkF_b (S : Sc) (A : St) (hA : A.ok) : ∀ (k l : Nat), 0 ≤ (chkF S A k l).1 ∧ (chkF S A k l).1 ≤ 5 ∧ -1 ≤ (chkF S A k l).2.1 ∧ (chkF S A k l).2.1 < l + k ∧ -1 ≤ (chkF S A k l).2.2 ∧ (chkF S A k l).2.2 ≤ 120 := by
  intro k
  induction k with
  | zero => intro l; simp [chkF]; omega
  | succ k ih =>
    intro l
    have h1 := ih (l + 1)
    have h2 := chkL_b S A hA l
    unfold chkF
    split
    · omega
    · simp only []; omega
theorem ChkAt_note {M : Mem} {s : Nat} (w l e : Int) (h : ChkAt M s) : ChkAt (noteM M w l e) s := h
theorem note_scr {M M0 : Mem} {w l e : Int} (h : Scr M0 M) : Scr M0 (noteM M w l e) := by
  unfold noteM
  exact ((h.sI (by unfold ScI; omega)).sI (by unfold ScI; omega)).sI (by unfold ScI; omega)
section
variable {M : Mem} {s : Nat} {S : Sc} {A : St}
/-- the class's view of schema and stripes -/
def CV (M : Mem) (s : Nat) (S : Sc) (A : St) : Prop := CLay M ∧ ColLay M 21 ∧ ShLay M s ∧ CSh M s S ∧ CC M 21 S.fu A ∧ mI M 18 1 = i32 A.rc ∧ 88 ≤ s ∧ s ≤ 112 ∧ 164 ≤ mn M
theorem CV.scr {M M' : Mem} (h : CV M s S A) (g : Scr M M') : CV M' s S A := by
  obtain ⟨h1, h2, h3, h4, h5, h6, h7, h8, h9⟩ := h
  refine ⟨h1.scr g, ColLay.scr h2 (by omega) g, h3.scr h7 g, h4.scr h7 h8 g, h5.scr (by omega) (by omega) g, ?_, h7, h8, by rw [g.2.2.1]; exact h9⟩
  rw [g.2.2.2.2.1 _ _ (by unfold ScI; omega)]
  exact h6
theorem X1_checkOne (hS : S.ok) (hV : CV M s S A) (hK : ChkAt M s) {l : Nat} (hl : l < S.nl) (h0 : mI M 7 0 = i32 0) (n : Nat) : f_X1_run_27 (n + 1) 7 (i32 l) M = f_X1_run_27 n 7 (i32 (l + 1 : Nat)) (if (chkL S A l).1 = 0 then M else noteM M (chkL S A l).1 l (chkL S A l).2) := by
  have hfo := Sc.fo_lt hS hl
  obtain ⟨hL, hc, hs, hC, hA, hrc, h7, h8, h9⟩ := hV
  have e1 := X1_checkColumn hL hc hs hS hC hK hA hrc hl
  have b1 := colW_b (wrongS S A l) (wrongS_b S A l) (A.sz l) 0
  have c0 := hC.1
  have c1 := hC.2.1
  unfold chkL
  by_cases d1 : (colW (wrongS S A l) (A.sz l) 0).1 = 0
  · simp only [d1, ne_eq, not_true_eq_false, if_false] at e1
    by_cases d2 : A.zs l = A.rc
    · simp only [d2, not_true_eq_false, if_false] at e1
      by_cases d3 : l = 0
      · subst d3
        simp (disch := omega) only [add_i0, cast_add1, cast_sub1, toNat120, i32_lit, i32_neg, i32_add, i32_sub, i32_mul, i32_nat, i32_le, i32_lt, i32_eq, inB_i, Int.toNat_natCast, mI_sI_eq, mI_sI_ne, mR_sR_eq, mR_sR_ne, mI_sR, mR_sI, mK_sI, mN_sI, mn_sI, mJ_sI, mK_sR, mN_sR, mn_sR, mJ_sR, mI_wI, mR_wI, mK_wI, mN_wI, mn_wI, mJ_wI, bnd_of, bndX_r, bndX_l, ap_of, if_true, if_false, if_pos, if_neg, ite_true, ite_false, not_true_eq_false, not_false_eq_true, Nat.reduceAdd, Nat.reduceMul, Nat.reduceEqDiff, Int.reduceToNat, Int.reduceNeg, f_X1_run_27, f_X1_run_66, hL.o, hK, hs.o, c1, h0, e1, d1, d2, ne_eq, true_or]
        (first | done | with_reducible rfl | ((repeat' split) <;> (first | with_reducible rfl | (exfalso; omega) | grind)))
      · have e2 := X1_checkWithAhead hL hc hs hS hC hK hA hl (by omega)
        by_cases d4 : unlS S A l = -1
        · simp only [d4, if_true] at e2
          simp (disch := omega) only [add_i0, cast_add1, cast_sub1, toNat120, i32_lit, i32_neg, i32_add, i32_sub, i32_mul, i32_nat, i32_le, i32_lt, i32_eq, inB_i, Int.toNat_natCast, mI_sI_eq, mI_sI_ne, mR_sR_eq, mR_sR_ne, mI_sR, mR_sI, mK_sI, mN_sI, mn_sI, mJ_sI, mK_sR, mN_sR, mn_sR, mJ_sR, mI_wI, mR_wI, mK_wI, mN_wI, mn_wI, mJ_wI, bnd_of, bndX_r, bndX_l, ap_of, if_true, if_false, if_pos, if_neg, ite_true, ite_false, not_true_eq_false, not_false_eq_true, Nat.reduceAdd, Nat.reduceMul, Nat.reduceEqDiff, Int.reduceToNat, Int.reduceNeg, f_X1_run_27, f_X1_run_66, hL.o, hK, hs.o, c1, h0, e1, e2, d1, d2, d4, ne_eq, or_true]
        · simp only [d4, if_false] at e2
          simp (disch := omega) only [add_i0, cast_add1, cast_sub1, toNat120, i32_lit, i32_neg, i32_add, i32_sub, i32_mul, i32_nat, i32_le, i32_lt, i32_eq, inB_i, Int.toNat_natCast, mI_sI_eq, mI_sI_ne, mR_sR_eq, mR_sR_ne, mI_sR, mR_sI, mK_sI, mN_sI, mn_sI, mJ_sI, mK_sR, mN_sR, mn_sR, mJ_sR, mI_wI, mR_wI, mK_wI, mN_wI, mn_wI, mJ_wI, bnd_of, bndX_r, bndX_l, ap_of, if_true, if_false, if_pos, if_neg, ite_true, ite_false, not_true_eq_false, not_false_eq_true, Nat.reduceAdd, Nat.reduceMul, Nat.reduceEqDiff, Int.reduceToNat, Int.reduceNeg, f_X1_run_27, f_X1_run_66, hL.o, hK, hs.o, c1, h0, e1, e2, d1, d2, d3, d4, ne_eq, or_self]
    · simp only [d2, not_false_eq_true, if_true] at e1
      have f1 : mI (noteM M 4 l (A.sz l)) 7 0 = i32 4 := by unfold noteM; simp (disch := omega) only [add_i0, cast_add1, cast_sub1, toNat120, i32_lit, i32_neg, i32_add, i32_sub, i32_mul, i32_nat, i32_le, i32_lt, i32_eq, inB_i, Int.toNat_natCast, mI_sI_eq, mI_sI_ne, mR_sR_eq, mR_sR_ne, mI_sR, mR_sI, mK_sI, mN_sI, mn_sI, mJ_sI, mK_sR, mN_sR, mn_sR, mJ_sR, mI_wI, mR_wI, mK_wI, mN_wI, mn_wI, mJ_wI, bnd_of, bndX_r, bndX_l, ap_of, if_true, if_false, if_pos, if_neg, ite_true, ite_false, not_true_eq_false, not_false_eq_true, Nat.reduceAdd, Nat.reduceMul, Nat.reduceEqDiff, Int.reduceToNat, Int.reduceNeg]
      have f2 : mK (noteM M 4 l (A.sz l)) = mK M := rfl
      simp (disch := omega) only [add_i0, cast_add1, cast_sub1, toNat120, i32_lit, i32_neg, i32_add, i32_sub, i32_mul, i32_nat, i32_le, i32_lt, i32_eq, inB_i, Int.toNat_natCast, mI_sI_eq, mI_sI_ne, mR_sR_eq, mR_sR_ne, mI_sR, mR_sI, mK_sI, mN_sI, mn_sI, mJ_sI, mK_sR, mN_sR, mn_sR, mJ_sR, mI_wI, mR_wI, mK_wI, mN_wI, mn_wI, mJ_wI, bnd_of, bndX_r, bndX_l, ap_of, if_true, if_false, if_pos, if_neg, ite_true, ite_false, not_true_eq_false, not_false_eq_true, Nat.reduceAdd, Nat.reduceMul, Nat.reduceEqDiff, Int.reduceToNat, Int.reduceNeg, f_X1_run_27, f_X1_run_66, hL.o, hK, hs.o, c1, h0, e1, d1, d2, ne_eq, f1, f2]
  · simp only [d1, ne_eq, not_false_eq_true, if_true] at e1
    have f1 : mI (noteM M (colW (wrongS S A l) (A.sz l) 0).1 l (colW (wrongS S A l) (A.sz l) 0).2) 7 0 = i32 (colW (wrongS S A l) (A.sz l) 0).1 := by unfold noteM; simp (disch := omega) only [add_i0, cast_add1, cast_sub1, toNat120, i32_lit, i32_neg, i32_add, i32_sub, i32_mul, i32_nat, i32_le, i32_lt, i32_eq, inB_i, Int.toNat_natCast, mI_sI_eq, mI_sI_ne, mR_sR_eq, mR_sR_ne, mI_sR, mR_sI, mK_sI, mN_sI, mn_sI, mJ_sI, mK_sR, mN_sR, mn_sR, mJ_sR, mI_wI, mR_wI, mK_wI, mN_wI, mn_wI, mJ_wI, bnd_of, bndX_r, bndX_l, ap_of, if_true, if_false, if_pos, if_neg, ite_true, ite_false, not_true_eq_false, not_false_eq_true, Nat.reduceAdd, Nat.reduceMul, Nat.reduceEqDiff, Int.reduceToNat, Int.reduceNeg]
    have f2 : mK (noteM M (colW (wrongS S A l) (A.sz l) 0).1 l (colW (wrongS S A l) (A.sz l) 0).2) = mK M := rfl
    simp (disch := omega) only [add_i0, cast_add1, cast_sub1, toNat120, i32_lit, i32_neg, i32_add, i32_sub, i32_mul, i32_nat, i32_le, i32_lt, i32_eq, inB_i, Int.toNat_natCast, mI_sI_eq, mI_sI_ne, mR_sR_eq, mR_sR_ne, mI_sR, mR_sI, mK_sI, mN_sI, mn_sI, mJ_sI, mK_sR, mN_sR, mn_sR, mJ_sR, mI_wI, mR_wI, mK_wI, mN_wI, mn_wI, mJ_wI, bnd_of, bndX_r, bndX_l, ap_of, if_true, if_false, if_pos, if_neg, ite_true, ite_false, not_true_eq_false, not_false_eq_true, Nat.reduceAdd, Nat.reduceMul, Nat.reduceEqDiff, Int.reduceToNat, Int.reduceNeg, f_X1_run_27, f_X1_run_66, hL.o, hK, hs.o, c1, h0, e1, d1, ne_eq, f1, f2]
theorem X1_run_stop (hS : S.ok) (hV : CV M s S A) (hK : ChkAt M s) {l : Nat} (hl : l ≤ S.nl) (h : l = S.nl ∨ mI M 7 0 ≠ i32 0) (n : Nat) : f_X1_run_27 (n + 1) 7 (i32 l) M = some (mI M 7 0, M) := by
  have h8 := hS.2.1
  obtain ⟨hL, hc, hs, hC, -⟩ := hV
  have c1 := hC.2.1
  by_cases d : l = S.nl
  · simp (disch := omega) only [add_i0, cast_add1, cast_sub1, toNat120, i32_lit, i32_neg, i32_add, i32_sub, i32_mul, i32_nat, i32_le, i32_lt, i32_eq, inB_i, Int.toNat_natCast, mI_sI_eq, mI_sI_ne, mR_sR_eq, mR_sR_ne, mI_sR, mR_sI, mK_sI, mN_sI, mn_sI, mJ_sI, mK_sR, mN_sR, mn_sR, mJ_sR, mI_wI, mR_wI, mK_wI, mN_wI, mn_wI, mJ_wI, bnd_of, bndX_r, bndX_l, ap_of, if_true, if_false, if_pos, if_neg, ite_true, ite_false, not_true_eq_false, not_false_eq_true, Nat.reduceAdd, Nat.reduceMul, Nat.reduceEqDiff, Int.reduceToNat, Int.reduceNeg, f_X1_run_27, f_X1_run_72, hL.o, hK, hs.o, c1]
  · rcases h with h | h
    · exact absurd h d
    · simp (disch := omega) only [add_i0, cast_add1, cast_sub1, toNat120, i32_lit, i32_neg, i32_add, i32_sub, i32_mul, i32_nat, i32_le, i32_lt, i32_eq, inB_i, Int.toNat_natCast, mI_sI_eq, mI_sI_ne, mR_sR_eq, mR_sR_ne, mI_sR, mR_sI, mK_sI, mN_sI, mn_sI, mJ_sI, mK_sR, mN_sR, mn_sR, mJ_sR, mI_wI, mR_wI, mK_wI, mN_wI, mn_wI, mJ_wI, bnd_of, bndX_r, bndX_l, ap_of, if_true, if_false, if_pos, if_neg, ite_true, ite_false, not_true_eq_false, not_false_eq_true, Nat.reduceAdd, Nat.reduceMul, Nat.reduceEqDiff, Int.reduceToNat, Int.reduceNeg, f_X1_run_27, f_X1_run_72, hL.o, hK, hs.o, c1, h]
theorem X1_run_loop (hS : S.ok) : ∀ (k l n : Nat) (M : Mem), CV M s S A → ChkAt M s → l + k = S.nl → k < n → mI M 7 0 = i32 0 → mI M 7 1 = i32 (-1) → mI M 7 2 = i32 (-1) →
    ∃ M', f_X1_run_27 (n + 1) 7 (i32 l) M = some (i32 (chkF S A k l).1, M') ∧ Scr M M' ∧ ChkAt M' s ∧ mI M' 7 0 = i32 (chkF S A k l).1 ∧ mI M' 7 1 = i32 (chkF S A k l).2.1 ∧ mI M' 7 2 = i32 (chkF S A k l).2.2 := by
  intro k
  induction k with
  | zero =>
    intro l n M hV hK hl hn h0 h1 h2
    refine ⟨M, ?_, Scr.rf M, hK, h0, h1, h2⟩
    rw [X1_run_stop hS hV hK (by omega) (Or.inl (by omega)), h0]
    rfl
  | succ k ih =>
    intro l n M hV hK hl hn h0 h1 h2
    have hb := chkL_b S A hV.2.2.2.2.1.1 l
    rw [X1_checkOne hS hV hK (by omega) h0]
    obtain ⟨n, rfl⟩ : ∃ m, n = m + 1 := ⟨n - 1, by omega⟩
    unfold chkF
    by_cases d : (chkL S A l).1 = 0
    · simp only [d, if_true]
      exact ih (l + 1) n M hV hK (by omega) (by omega) h0 h1 h2
    · simp only [d, if_false]
      have g : Scr M (noteM M (chkL S A l).1 l (chkL S A l).2) := note_scr (Scr.rf M)
      have f0 : mI (noteM M (chkL S A l).1 l (chkL S A l).2) 7 0 = i32 (chkL S A l).1 := by unfold noteM; simp (disch := omega) only [add_i0, cast_add1, cast_sub1, toNat120, i32_lit, i32_neg, i32_add, i32_sub, i32_mul, i32_nat, i32_le, i32_lt, i32_eq, inB_i, Int.toNat_natCast, mI_sI_eq, mI_sI_ne, mR_sR_eq, mR_sR_ne, mI_sR, mR_sI, mK_sI, mN_sI, mn_sI, mJ_sI, mK_sR, mN_sR, mn_sR, mJ_sR, mI_wI, mR_wI, mK_wI, mN_wI, mn_wI, mJ_wI, bnd_of, bndX_r, bndX_l, ap_of, if_true, if_false, if_pos, if_neg, ite_true, ite_false, not_true_eq_false, not_false_eq_true, Nat.reduceAdd, Nat.reduceMul, Nat.reduceEqDiff, Int.reduceToNat, Int.reduceNeg]
      refine ⟨_, ?_, g, ChkAt_note _ _ _ hK, f0, ?_, ?_⟩
      · rw [X1_run_stop hS (hV.scr g) (ChkAt_note _ _ _ hK) (by omega) (Or.inr (by rw [f0]; exact i32_ne (by omega) (by omega) (by omega) (by omega) d)), f0]
      · unfold noteM; simp (disch := omega) only [add_i0, cast_add1, cast_sub1, toNat120, i32_lit, i32_neg, i32_add, i32_sub, i32_mul, i32_nat, i32_le, i32_lt, i32_eq, inB_i, Int.toNat_natCast, mI_sI_eq, mI_sI_ne, mR_sR_eq, mR_sR_ne, mI_sR, mR_sI, mK_sI, mN_sI, mn_sI, mJ_sI, mK_sR, mN_sR, mn_sR, mJ_sR, mI_wI, mR_wI, mK_wI, mN_wI, mn_wI, mJ_wI, bnd_of, bndX_r, bndX_l, ap_of, if_true, if_false, if_pos, if_neg, ite_true, ite_false, not_true_eq_false, not_false_eq_true, Nat.reduceAdd, Nat.reduceMul, Nat.reduceEqDiff, Int.reduceToNat, Int.reduceNeg]
      · unfold noteM; simp (disch := omega) only [add_i0, cast_add1, cast_sub1, toNat120, i32_lit, i32_neg, i32_add, i32_sub, i32_mul, i32_nat, i32_le, i32_lt, i32_eq, inB_i, Int.toNat_natCast, mI_sI_eq, mI_sI_ne, mR_sR_eq, mR_sR_ne, mI_sR, mR_sI, mK_sI, mN_sI, mn_sI, mJ_sI, mK_sR, mN_sR, mn_sR, mJ_sR, mI_wI, mR_wI, mK_wI, mN_wI, mn_wI, mJ_wI, bnd_of, bndX_r, bndX_l, ap_of, if_true, if_false, if_pos, if_neg, ite_true, ite_false, not_true_eq_false, not_false_eq_true, Nat.reduceAdd, Nat.reduceMul, Nat.reduceEqDiff, Int.reduceToNat, Int.reduceNeg]
/-- the class's check -/
theorem X1_run (hS : S.ok) (hV : CV M s S A) : ∃ M', f_X1_run 7 s 18 M = some (i32 (chk S A).1, M') ∧ Scr M M' ∧ ChkAt M' s ∧ mI M' 7 0 = i32 (chk S A).1 ∧ mI M' 7 1 = i32 (chk S A).2.1 ∧ mI M' 7 2 = i32 (chk S A).2.2 := by
  have h8 := hS.2.1
  have g : Scr M (sI (sI (sI (sR (sR M 7 5 s) 7 6 18) 7 0 (i32 0)) 7 1 (i32 (-1))) 7 2 (i32 (-1))) :=
    (((((Scr.rf M).sR (by unfold ScR; omega)).sR (by unfold ScR; omega)).sI (by unfold ScI; omega)).sI (by unfold ScI; omega)).sI (by unfold ScI; omega)
  have e : f_X1_run 7 s 18 M = f_X1_run_27 FUEL 7 (i32 (0 : Nat)) (sI (sI (sI (sR (sR M 7 5 s) 7 6 18) 7 0 (i32 0)) 7 1 (i32 (-1))) 7 2 (i32 (-1))) := by
    obtain ⟨hL, hc, hs, hC, hA, hrc, h7, h8, h9⟩ := hV
    simp (disch := omega) only [add_i0, cast_add1, cast_sub1, toNat120, i32_lit, i32_neg, i32_add, i32_sub, i32_mul, i32_nat, i32_le, i32_lt, i32_eq, inB_i, Int.toNat_natCast, mI_sI_eq, mI_sI_ne, mR_sR_eq, mR_sR_ne, mI_sR, mR_sI, mK_sI, mN_sI, mn_sI, mJ_sI, mK_sR, mN_sR, mn_sR, mJ_sR, mI_wI, mR_wI, mK_wI, mN_wI, mn_wI, mJ_wI, bnd_of, bndX_r, bndX_l, ap_of, if_true, if_false, if_pos, if_neg, ite_true, ite_false, not_true_eq_false, not_false_eq_true, Nat.reduceAdd, Nat.reduceMul, Nat.reduceEqDiff, Int.reduceToNat, Int.reduceNeg, f_X1_run, hL.o, okrB_sI, okrB_sR, okB1]
    rfl
  have hK : ChkAt (sI (sI (sI (sR (sR M 7 5 s) 7 6 18) 7 0 (i32 0)) 7 1 (i32 (-1))) 7 2 (i32 (-1))) s := ⟨by simp (disch := omega) only [add_i0, cast_add1, cast_sub1, toNat120, i32_lit, i32_neg, i32_add, i32_sub, i32_mul, i32_nat, i32_le, i32_lt, i32_eq, inB_i, Int.toNat_natCast, mI_sI_eq, mI_sI_ne, mR_sR_eq, mR_sR_ne, mI_sR, mR_sI, mK_sI, mN_sI, mn_sI, mJ_sI, mK_sR, mN_sR, mn_sR, mJ_sR, mI_wI, mR_wI, mK_wI, mN_wI, mn_wI, mJ_wI, bnd_of, bndX_r, bndX_l, ap_of, if_true, if_false, if_pos, if_neg, ite_true, ite_false, not_true_eq_false, not_false_eq_true, Nat.reduceAdd, Nat.reduceMul, Nat.reduceEqDiff, Int.reduceToNat, Int.reduceNeg], by simp (disch := omega) only [add_i0, cast_add1, cast_sub1, toNat120, i32_lit, i32_neg, i32_add, i32_sub, i32_mul, i32_nat, i32_le, i32_lt, i32_eq, inB_i, Int.toNat_natCast, mI_sI_eq, mI_sI_ne, mR_sR_eq, mR_sR_ne, mI_sR, mR_sI, mK_sI, mN_sI, mn_sI, mJ_sI, mK_sR, mN_sR, mn_sR, mJ_sR, mI_wI, mR_wI, mK_wI, mN_wI, mn_wI, mJ_wI, bnd_of, bndX_r, bndX_l, ap_of, if_true, if_false, if_pos, if_neg, ite_true, ite_false, not_true_eq_false, not_false_eq_true, Nat.reduceAdd, Nat.reduceMul, Nat.reduceEqDiff, Int.reduceToNat, Int.reduceNeg]⟩
  obtain ⟨M', h1, h2, h3⟩ := X1_run_loop hS S.nl 0 (FUEL - 1) _ (hV.scr g) hK (by omega) (by unfold FUEL; omega) (by simp (disch := omega) only [add_i0, cast_add1, cast_sub1, toNat120, i32_lit, i32_neg, i32_add, i32_sub, i32_mul, i32_nat, i32_le, i32_lt, i32_eq, inB_i, Int.toNat_natCast, mI_sI_eq, mI_sI_ne, mR_sR_eq, mR_sR_ne, mI_sR, mR_sI, mK_sI, mN_sI, mn_sI, mJ_sI, mK_sR, mN_sR, mn_sR, mJ_sR, mI_wI, mR_wI, mK_wI, mN_wI, mn_wI, mJ_wI, bnd_of, bndX_r, bndX_l, ap_of, if_true, if_false, if_pos, if_neg, ite_true, ite_false, not_true_eq_false, not_false_eq_true, Nat.reduceAdd, Nat.reduceMul, Nat.reduceEqDiff, Int.reduceToNat, Int.reduceNeg]) (by simp (disch := omega) only [add_i0, cast_add1, cast_sub1, toNat120, i32_lit, i32_neg, i32_add, i32_sub, i32_mul, i32_nat, i32_le, i32_lt, i32_eq, inB_i, Int.toNat_natCast, mI_sI_eq, mI_sI_ne, mR_sR_eq, mR_sR_ne, mI_sR, mR_sI, mK_sI, mN_sI, mn_sI, mJ_sI, mK_sR, mN_sR, mn_sR, mJ_sR, mI_wI, mR_wI, mK_wI, mN_wI, mn_wI, mJ_wI, bnd_of, bndX_r, bndX_l, ap_of, if_true, if_false, if_pos, if_neg, ite_true, ite_false, not_true_eq_false, not_false_eq_true, Nat.reduceAdd, Nat.reduceMul, Nat.reduceEqDiff, Int.reduceToNat, Int.reduceNeg]) (by simp (disch := omega) only [add_i0, cast_add1, cast_sub1, toNat120, i32_lit, i32_neg, i32_add, i32_sub, i32_mul, i32_nat, i32_le, i32_lt, i32_eq, inB_i, Int.toNat_natCast, mI_sI_eq, mI_sI_ne, mR_sR_eq, mR_sR_ne, mI_sR, mR_sI, mK_sI, mN_sI, mn_sI, mJ_sI, mK_sR, mN_sR, mn_sR, mJ_sR, mI_wI, mR_wI, mK_wI, mN_wI, mn_wI, mJ_wI, bnd_of, bndX_r, bndX_l, ap_of, if_true, if_false, if_pos, if_neg, ite_true, ite_false, not_true_eq_false, not_false_eq_true, Nat.reduceAdd, Nat.reduceMul, Nat.reduceEqDiff, Int.reduceToNat, Int.reduceNeg])
  rw [e]
  exact ⟨M', h1, g.tr h2, h3⟩
end
