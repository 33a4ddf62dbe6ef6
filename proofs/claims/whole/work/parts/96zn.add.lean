/-! add in the class: the call -/
def c7I (a _j : Nat) : Prop := a = 7
def c7R (a j : Nat) : Prop := a = 7 ∧ 5 ≤ j
section
variable {M M' : Mem} {S : Sc} {s : Nat} {A : St}
theorem Fr.c7s (g : Fr c7I c7R M M') : Scr M M' := ⟨g.1, g.2.1, g.2.2.1, g.2.2.2.1, fun a j q => g.i (fun w => q (by unfold c7I at w; unfold ScI; omega)), fun a j q => g.r (fun w => q (by unfold c7R at w; unfold ScR; omega))⟩
theorem X1_run_loopF (hS : S.ok) : ∀ (k l n : Nat) (M : Mem), CV M s S A → ChkAt M s → l + k = S.nl → k < n → mI M 7 0 = i32 0 → ∃ M', f_X1_run_27 (n + 1) 7 (i32 l) M = some (i32 (chkF S A k l).1, M') ∧ Chg c7I M M' := by
  intro k
  induction k with
  | zero =>
    intro l n M hV hK hl hn h0
    refine ⟨M, ?_, Chg.rf _ M⟩
    rw [X1_run_stop hS hV hK (by omega) (Or.inl (by omega)), h0]
    rfl
  | succ k ih =>
    intro l n M hV hK hl hn h0
    have hb := chkL_b S A hV.2.2.2.2.1.1 l
    rw [X1_checkOne hS hV hK (by omega) h0]
    obtain ⟨n, rfl⟩ : ∃ m, n = m + 1 := ⟨n - 1, by omega⟩
    unfold chkF
    by_cases d : (chkL S A l).1 = 0
    · simp only [d, if_true]
      exact ih (l + 1) n M hV hK (by omega) (by omega) h0
    · simp only [d, if_false]
      have g : Scr M (noteM M (chkL S A l).1 l (chkL S A l).2) := note_scr (Scr.rf M)
      have g2 : Chg c7I M (noteM M (chkL S A l).1 l (chkL S A l).2) := (((Chg.rf c7I M).sI rfl).sI rfl).sI rfl
      have f0 : mI (noteM M (chkL S A l).1 l (chkL S A l).2) 7 0 = i32 (chkL S A l).1 := by
        unfold noteM
        rw [mI_sI_ne (by omega), mI_sI_ne (by omega), mI_sI_eq]
      refine ⟨_, ?_, g2⟩
      rw [X1_run_stop hS (hV.scr g) (ChkAt_note _ _ _ hK) (by omega) (Or.inr (by rw [f0]; exact i32_ne (by omega) (by omega) (by omega) (by omega) d)), f0]
theorem X11_isWrongF (hS : S.ok) (hV : CV M s S A) (h8 : mR M 1 8 = s) : ∃ M', f_X11_isWrong 1 M = some (if (chk S A).1 = 0 then i32 0 else i32 1, M') ∧ Fr c7I c7R M M' := by
  have hnl := hS.2.1
  have hL := hV.1
  have hb := chkF_b S A hV.2.2.2.2.1.1 S.nl 0
  have hb2 : 0 ≤ (chk S A).1 ∧ (chk S A).1 ≤ 5 := ⟨hb.1, hb.2.1⟩
  have k1 : mK M 1 = 12 := by simp only [hL.o]
  have r3 : mR M 1 3 = 7 := by simp only [hL.o]
  have k7 : mK M 7 = 2 := by simp only [hL.o]
  have r6 : mR M 1 6 = 18 := by simp only [hL.o]
  have g : Fr c7I c7R M (sI (sI (sI (sR (sR M 7 5 s) 7 6 18) 7 0 (i32 0)) 7 1 (i32 (-1))) 7 2 (i32 (-1))) := (((((Fr.rf c7I c7R M).sR ⟨rfl, by omega⟩).sR ⟨rfl, by omega⟩).sI rfl).sI rfl).sI rfl
  have e : f_X1_run 7 s 18 M = f_X1_run_27 FUEL 7 (i32 (0 : Nat)) (sI (sI (sI (sR (sR M 7 5 s) 7 6 18) 7 0 (i32 0)) 7 1 (i32 (-1))) 7 2 (i32 (-1))) := by
    obtain ⟨hL, hc, hs, hC, hA, hrc, h7, h8, h9⟩ := hV
    simp (disch := omega) only [add_i0, cast_add1, cast_sub1, toNat120, i32_lit, i32_neg, i32_add, i32_sub, i32_mul, i32_nat, i32_le, i32_lt, i32_eq, inB_i, Int.toNat_natCast, mI_sI_eq, mI_sI_ne, mR_sR_eq, mR_sR_ne, mI_sR, mR_sI, mK_sI, mN_sI, mn_sI, mJ_sI, mK_sR, mN_sR, mn_sR, mJ_sR, mI_wI, mR_wI, mK_wI, mN_wI, mn_wI, mJ_wI, bnd_of, bndX_r, bndX_l, ap_of, if_true, if_false, if_pos, if_neg, ite_true, ite_false, not_true_eq_false, not_false_eq_true, Nat.reduceAdd, Nat.reduceMul, Nat.reduceEqDiff, Int.reduceToNat, Int.reduceNeg, f_X1_run, hL.o, okrB_sI, okrB_sR, okB1]
    rfl
  have hK : ChkAt (sI (sI (sI (sR (sR M 7 5 s) 7 6 18) 7 0 (i32 0)) 7 1 (i32 (-1))) 7 2 (i32 (-1))) s := ⟨by simp (disch := omega) only [add_i0, cast_add1, cast_sub1, toNat120, i32_lit, i32_neg, i32_add, i32_sub, i32_mul, i32_nat, i32_le, i32_lt, i32_eq, inB_i, Int.toNat_natCast, mI_sI_eq, mI_sI_ne, mR_sR_eq, mR_sR_ne, mI_sR, mR_sI, mK_sI, mN_sI, mn_sI, mJ_sI, mK_sR, mN_sR, mn_sR, mJ_sR, mI_wI, mR_wI, mK_wI, mN_wI, mn_wI, mJ_wI, bnd_of, bndX_r, bndX_l, ap_of, if_true, if_false, if_pos, if_neg, ite_true, ite_false, not_true_eq_false, not_false_eq_true, Nat.reduceAdd, Nat.reduceMul, Nat.reduceEqDiff, Int.reduceToNat, Int.reduceNeg], by simp (disch := omega) only [add_i0, cast_add1, cast_sub1, toNat120, i32_lit, i32_neg, i32_add, i32_sub, i32_mul, i32_nat, i32_le, i32_lt, i32_eq, inB_i, Int.toNat_natCast, mI_sI_eq, mI_sI_ne, mR_sR_eq, mR_sR_ne, mI_sR, mR_sI, mK_sI, mN_sI, mn_sI, mJ_sI, mK_sR, mN_sR, mn_sR, mJ_sR, mI_wI, mR_wI, mK_wI, mN_wI, mn_wI, mJ_wI, bnd_of, bndX_r, bndX_l, ap_of, if_true, if_false, if_pos, if_neg, ite_true, ite_false, not_true_eq_false, not_false_eq_true, Nat.reduceAdd, Nat.reduceMul, Nat.reduceEqDiff, Int.reduceToNat, Int.reduceNeg]⟩
  obtain ⟨M', h1, h2⟩ := X1_run_loopF hS S.nl 0 (FUEL - 1) _ (hV.scr g.c7s) hK (by omega) (by unfold FUEL; omega) (by rw [mI_sI_ne (by omega), mI_sI_ne (by omega), mI_sI_eq])
  have h1 : f_X1_run 7 s 18 M = some (i32 (chk S A).1, M') := e.trans h1
  refine ⟨M', ?_, g.tr (h2.fr (fun a j q => q))⟩
  unfold f_X11_isWrong
  rw [if_pos k1, r3, if_pos k7, h8, r6, bx h1]
  by_cases c : (chk S A).1 = 0
  · rw [if_pos c, c, if_pos (by rfl)]
    rfl
  · have nz : ¬ (i32 (chk S A).1 = i32 0) := i32_ne (by omega) (by omega) (by omega) (by omega) c
    rw [if_neg c, if_neg (by exact nz)]
    rfl
end
def adR (S : Sc) (tb : Nat → Int) (n : Nat) (A : St) : (Int × Nat) ⊕ St := if tkK tb n 0 = 0 then .inl (1, tkB tb n 0) else adF S tb n (n + 1) 0 A
section
variable {M M' : Mem} {S : Sc} {s : Nat} {tb : Nat → Int} {n : Nat} {A : St} {dp : Nat → Nat}
theorem X4_read31 (hW : S.wf) (hA : CC M 21 S.fu A) : ∀ (k j m : Nat) (M1 : Mem), j + k = S.nl → k < m → ARL M1 s S tb n → Chg (fun a _ => a = 6) M M1 → (∀ l, l < j → mI M1 6 l = i32 (A.sz l)) → ∃ M2, f_X4_read_31 m 5 18 (i32 j) M1 = f_X4_read_69 FUEL 5 (0 : Int32) M2 ∧ Chg (fun a _ => a = 6) M M2 ∧ ∀ l, l < S.nl → mI M2 6 l = i32 (A.sz l) := by
  have hnl := hW.1.2.1
  intro k
  induction k with
  | zero =>
    intro j m M1 hj hm hR g h
    obtain ⟨m, rfl⟩ : ∃ q, m = q + 1 := ⟨m - 1, by omega⟩
    obtain ⟨hL, hc, hsl, hsh, s1, s2, r52, r53, r54, hTX⟩ := hR
    have k5 : mK M1 5 = 5 := by simp only [hL.o]
    have ks : mK M1 s = 6 := by simp only [hsl.o]
    refine ⟨M1, ?_, g, fun l hl => h l (by omega)⟩
    unfold f_X4_read_31
    rw [if_pos k5, r53, if_pos ks, hsh.2.1, if_pos (by simp (disch := omega) only [↓reduceIte, add_i0, cast_add1, cast_sub1, toNat120, i32_lit, i32_neg, i32_add, i32_sub, i32_mul, i32_nat, i32_le, i32_lt, i32_eq, inB_i, Int.toNat_natCast, mI_sI_eq, mI_sI_ne, mR_sR_eq, mR_sR_ne, mI_sR, mR_sI, mK_sI, mN_sI, mn_sI, mJ_sI, mK_sR, mN_sR, mn_sR, mJ_sR, mI_wI, mR_wI, mK_wI, mN_wI, mn_wI, mJ_wI, ↓bnd_of, ↓bndX_r, ↓bndX_l, ↓ap_nr, bnd_of, bndX_r, bndX_l, if_true, if_false, ite_true, ite_false, not_true_eq_false, not_false_eq_true, Nat.reduceAdd, Nat.reduceMul, Nat.reduceEqDiff, Int.reduceToNat, Int.reduceNeg, Ilt_t, Ilt_f, Ile_t, Ile_f, Ieq_t, Ieq_f, Nlt_t, Nlt_f, Nle_t, Nle_f, Neq_t, Neq_f, or_true, true_or, or_false, false_or, and_true, true_and, and_false, false_and, ne_eq, or_self, and_self, decide_true, decide_false, Bool.false_eq_true])]
  | succ k ih =>
    intro j m M1 hj hm hR g h
    obtain ⟨m, rfl⟩ : ∃ q, m = q + 1 := ⟨m - 1, by omega⟩
    obtain ⟨hL, hc, hsl, hsh, s1, s2, r52, r53, r54, hTX⟩ := id hR
    have k5 : mK M1 5 = 5 := by simp only [hL.o]
    have ks : mK M1 s = 6 := by simp only [hsl.o]
    have k18 : mK M1 18 = 8 := by simp only [hL.o]
    have r180 : mR M1 18 0 = 19 := by simp only [hL.o]
    have k19 : mK M1 19 = 23 := by simp only [hL.o]
    have n19 : mN M1 19 = 8 := by simp only [hL.o]
    have r50 : mR M1 5 0 = 6 := by simp only [hL.o]
    have k6 : mK M1 6 = 21 := by simp only [hL.o]
    have n6 : mN M1 6 = 8 := by simp only [hL.o]
    have hca := hc.at21 (l := j) (by omega)
    have rj : mR M1 19 j = 21 + 4 * j := by simp only [hca.o]
    have kj : mK M1 (21 + 4 * j) = 3 := by simp only [hca.o]
    have inj : inB (i32 (j : Int)) 8 = true := by simp (disch := omega) only [↓reduceIte, add_i0, cast_add1, cast_sub1, toNat120, i32_lit, i32_neg, i32_add, i32_sub, i32_mul, i32_nat, i32_le, i32_lt, i32_eq, inB_i, Int.toNat_natCast, mI_sI_eq, mI_sI_ne, mR_sR_eq, mR_sR_ne, mI_sR, mR_sI, mK_sI, mN_sI, mn_sI, mJ_sI, mK_sR, mN_sR, mn_sR, mJ_sR, mI_wI, mR_wI, mK_wI, mN_wI, mn_wI, mJ_wI, ↓bnd_of, ↓bndX_r, ↓bndX_l, ↓ap_nr, bnd_of, bndX_r, bndX_l, if_true, if_false, ite_true, ite_false, not_true_eq_false, not_false_eq_true, Nat.reduceAdd, Nat.reduceMul, Nat.reduceEqDiff, Int.reduceToNat, Int.reduceNeg, Ilt_t, Ilt_f, Ile_t, Ile_f, Ieq_t, Ieq_f, Nlt_t, Nlt_f, Nle_t, Nle_f, Neq_t, Neq_f, or_true, true_or, or_false, false_or, and_true, true_and, and_false, false_and, ne_eq, or_self, and_self, decide_true, decide_false, Bool.false_eq_true]
    have lt : ¬ (i32 (S.nl : Int) ≤ i32 (j : Int)) := by simp (disch := omega) only [↓reduceIte, add_i0, cast_add1, cast_sub1, toNat120, i32_lit, i32_neg, i32_add, i32_sub, i32_mul, i32_nat, i32_le, i32_lt, i32_eq, inB_i, Int.toNat_natCast, mI_sI_eq, mI_sI_ne, mR_sR_eq, mR_sR_ne, mI_sR, mR_sI, mK_sI, mN_sI, mn_sI, mJ_sI, mK_sR, mN_sR, mn_sR, mJ_sR, mI_wI, mR_wI, mK_wI, mN_wI, mn_wI, mJ_wI, ↓bnd_of, ↓bndX_r, ↓bndX_l, ↓ap_nr, bnd_of, bndX_r, bndX_l, if_true, if_false, ite_true, ite_false, not_true_eq_false, not_false_eq_true, Nat.reduceAdd, Nat.reduceMul, Nat.reduceEqDiff, Int.reduceToNat, Int.reduceNeg, Ilt_t, Ilt_f, Ile_t, Ile_f, Ieq_t, Ieq_f, Nlt_t, Nlt_f, Nle_t, Nle_f, Neq_t, Neq_f, or_true, true_or, or_false, false_or, and_true, true_and, and_false, false_and, ne_eq, or_self, and_self, decide_true, decide_false, Bool.false_eq_true]
    have ez : mI M1 (21 + 4 * j) 3 = i32 (A.sz j) := by rw [g.i (by omega)]; exact hA.2.1 j (by omega)
    have g1 : Chg (fun a _ => a = 6) M1 (sI M1 6 j (i32 (A.sz j : Int))) := (Chg.rf _ M1).sI rfl
    obtain ⟨M2, e2, g2, w2⟩ := ih (j + 1) m (sI M1 6 j (i32 (A.sz j : Int))) (by omega) (by omega) (hR.chg (g1.mono (fun a i q => by unfold adC; omega))) (g.tr g1) (fun l hl => by
      by_cases c : l = j
      · subst c; exact mI_sI_eq
      · rw [mI_sI_ne (by omega)]; exact h l (by omega))
    refine ⟨M2, ?_, g2, w2⟩
    rw [← e2]
    conv => lhs; unfold f_X4_read_31
    rw [if_pos k5, r53, if_pos ks, hsh.2.1, if_neg lt, if_pos k18, r180, if_pos k19, n19, if_pos inj, nat_i (by omega), rj, if_pos kj, r50, if_pos k6, n6, if_pos inj, ez, ap_of, k_add1]
def a5R (a j : Nat) : Prop := a = 5 ∧ 2 ≤ j
theorem X4_read (hW : S.wf) (hVT : VT S S dp) (hnf0 : 0 < S.nf) (hV : CV M s S A) (hT : TXc M tb n) (hk : CTk M tb n 0) : ∃ x M', f_X4_read 5 2 s 18 M = some (i32 x, M') ∧ Fr adC2 a5R M M' ∧ CC M' 21 S.fu A ∧ match adR S tb n A with
    | .inl y => x = y.1 ∧ mI M' 2 4 = i32 y.2
    | .inr B' => x = 0 ∧ CX M' S A B' ∧ mI M' 5 1 = i32 B'.rc := by
  obtain ⟨hL, hc, hsl, hsh, hA, hr, s1, s2, hmn⟩ := hV
  have hnl := hW.1.2.1
  have hn := hT.2.2.1
  have k5 : mK M 5 = 5 := by simp only [hL.o]
  have k18 : mK M 18 = 8 := by simp only [hL.o]
  have hr' : mI (sI (sR (sR (sR M 5 2 2) 5 3 s) 5 4 18) 5 5 (0 : Int32)) 18 1 = i32 A.rc := by rw [mI_sI_ne (by omega), mI_sR, mI_sR, mI_sR]; exact hr
  obtain ⟨M1, em⟩ : ∃ M1, sI (sI (sR (sR (sR M 5 2 2) 5 3 s) 5 4 18) 5 5 (0 : Int32)) 5 1 (i32 (A.rc : Int)) = M1 := ⟨_, rfl⟩
  have g1 : Fr adC2 a5R M M1 := by
    rw [← em]
    exact (((((Fr.rf adC2 a5R M).sR ⟨rfl, by omega⟩).sR ⟨rfl, by omega⟩).sR ⟨rfl, by omega⟩).sI (by unfold adC2 adC; omega)).sI (by unfold adC2 adC; omega)
  have gw1 : Gw adC2 a5R M M1 := g1.gw (fun a j q => by unfold adC2 adC tkC at q; omega) (fun a j q => by unfold a5R at q; omega)
  have i1 : ∀ a j, a ≠ 5 → mI M1 a j = mI M a j := fun a j q => by rw [← em, mI_sI_ne (by omega), mI_sI_ne (by omega)]; rfl
  have dy : ∀ a j, a5R a j → DyR a j := fun a j q => by unfold a5R at q; unfold DyR; omega
  have hR1 : ARL M1 s S tb n := by
    refine ⟨hL.gw gw1 dy, hc.gw (Or.inl rfl) gw1 dy, hsl.gw s1 s2 gw1 dy, hsh.gw s1 s2 gw1 (fun a j q => by unfold adC2 adC tkC at q; omega), s1, s2, ?_, ?_, ?_, ?_⟩
    · rw [← em, mR_sI, mR_sI, mR_sR_ne (by omega), mR_sR_ne (by omega), mR_sR_eq]
    · rw [← em, mR_sI, mR_sI, mR_sR_ne (by omega), mR_sR_eq]
    · rw [← em, mR_sI, mR_sI, mR_sR_eq]
    · exact ⟨by rw [i1 _ _ (by omega)]; exact hT.1, fun i hi => by rw [i1 _ _ (by omega)]; exact hT.2.1 i hi, hT.2.2⟩
  have hA1 : CC M1 21 S.fu A := by
    obtain ⟨c0, c1, c2, c3, c4, c5, c6⟩ := hA
    exact ⟨c0, fun l hl => by rw [i1 _ _ (by omega)]; exact c1 l hl, fun l j hl hj => by rw [i1 _ _ (by omega)]; exact c2 l j hl hj, fun l j hl hj => by rw [i1 _ _ (by omega)]; exact c3 l j hl hj, fun l j hl hj => by rw [i1 _ _ (by omega)]; exact c4 l j hl hj, fun l hl => by rw [i1 _ _ (by omega)]; exact c5 l hl, c6⟩
  have h51 : mI M1 5 1 = i32 A.rc := by rw [← em, mI_sI_eq]
  obtain ⟨M2, e2, g2, w2⟩ := X4_read31 (n := n) (tb := tb) hW hA1 S.nl 0 FUEL M1 (by omega) (by unfold FUEL; omega) hR1 (Chg.rf _ M1) (fun l hl => by omega)
  have e2 : f_X4_read_31 FUEL 5 18 (0 : Int32) M1 = f_X4_read_69 FUEL 5 (0 : Int32) M2 := e2
  have g2a : Chg adC M1 M2 := g2.mono (fun a i q => by unfold adC; omega)
  have hR2 := hR1.chg g2a
  have hX2 : CX M2 S A A := by
    refine ⟨?_, hA.1.lvo, fun l hl => Nat.le_refl _, w2, fun l j hl hj _ => ?_⟩
    · obtain ⟨c0, c1, c2, c3, c4, c5, c6⟩ := hA1
      exact ⟨c0, fun l hl => by rw [g2.i (by omega)]; exact c1 l hl, fun l j hl hj => by rw [g2.i (by omega)]; exact c2 l j hl hj, fun l j hl hj => by rw [g2.i (by omega)]; exact c3 l j hl hj, fun l j hl hj => by rw [g2.i (by omega)]; exact c4 l j hl hj, fun l hl => by rw [g2.i (by omega)]; exact c5 l hl, c6⟩
    · rw [g2.i (by omega), g2.i (by omega), g2.i (by omega)]
      exact ⟨hA1.2.2.1 l j hl hj, hA1.2.2.2.1 l j hl hj, hA1.2.2.2.2.1 l j hl hj⟩
  have hk2 : CTk M2 tb n 0 := hk.cg (fun i => by rw [g2.i (by omega), i1 _ _ (by omega)])
  have h512 : mI M2 5 1 = i32 A.rc := by rw [g2.i (by omega)]; exact h51
  have est : f_X4_read 5 2 s 18 M = f_X4_read_69 FUEL 5 (0 : Int32) M2 := by
    rw [← e2]
    unfold f_X4_read
    rw [if_pos k5, if_pos (by rw [okB1 (by omega)]; trivial), ap_of, if_pos (by exact k5), if_pos (by rw [okrB_sR, okB1 (by omega)]; trivial), ap_of, if_pos (by exact k5), if_pos (by rw [okrB_sR, okrB_sR, okB1 (by omega)]; trivial), ap_of, if_pos (by exact k5), ap_of, if_pos (by exact k18), if_pos (by exact k5), hr', ap_of, em]
  have frc : ∀ M3, Chg adC2 M2 M3 → Fr adC2 a5R M M3 := fun M3 g3 => g1.tr (((g2a.mono adC_2).tr g3).fr (fun a j q => q))
  rw [est]
  unfold adR
  by_cases c0 : tkK tb n 0 = 0
  · rw [if_pos c0]
    obtain ⟨m, hm⟩ : ∃ m, FUEL = m + 1 := ⟨FUEL - 1, by unfold FUEL; omega⟩
    have k52 : mK M2 5 = 5 := by simp only [hR2.1.o]
    have k22 : mK M2 2 = 10 := by simp only [hR2.1.o]
    have et : mI M2 2 3 = i32 (tkK tb n 0) := hk2.1
    refine ⟨1, M2, ?_, frc M2 (Chg.rf _ M2), hX2.1, rfl, hk2.2.1⟩
    rw [hm]
    unfold f_X4_read_69
    rw [if_neg (by decide), if_pos k52, hR2.2.2.2.2.2.2.1, if_pos k22, et, c0, if_pos (by rfl), if_pos (by rfl)]
    rfl
  · rw [if_neg c0]
    obtain ⟨x3, M3, e3, g3, c3, d3⟩ := X4_read69 (A0 := A) hn hW hVT hnf0 (n + 1) 0 FUEL M2 A 0 (by omega) (by unfold FUEL; omega) (by omega) (fun _ => c0) hR2 hX2 h512 hA.1.2.2.2.2 hA.1.2.2.2.1 hk2 (by omega)
    have e3 : f_X4_read_69 FUEL 5 (0 : Int32) M2 = _ := e3
    exact ⟨x3, M3, e3, frc M3 g3, c3, d3⟩
theorem X7_staged29 {B : St} (hS : S.ok) : ∀ (k j m : Nat) (M : Mem), j + k = S.nl → k < m → CLay M → ColLay M 21 → (∀ l, l < S.nl → mI M 6 l = i32 (B.sz l)) → ∃ M', f_X7_addStaged_29 m 18 6 (i32 S.nl) (i32 j) M = some ((), M') ∧ Chg (fun a i => 21 ≤ a ∧ a ≤ 52 ∧ i = 3) M M' ∧ (∀ l, j ≤ l → l < S.nl → mI M' (21 + 4 * l) 3 = i32 (B.sz l)) ∧ (∀ l, l < j ∨ S.nl ≤ l → mI M' (21 + 4 * l) 3 = mI M (21 + 4 * l) 3) ∧ ∀ a i, (∀ l, l < 8 → a ≠ 21 + 4 * l) → mI M' a i = mI M a i := by
  have hnl := hS.2.1
  intro k
  induction k with
  | zero =>
    intro j m M hj hm hL hc h6
    obtain ⟨m, rfl⟩ : ∃ q, m = q + 1 := ⟨m - 1, by omega⟩
    refine ⟨M, ?_, Chg.rf _ M, fun l h1 h2 => by omega, fun l _ => rfl, fun a i _ => rfl⟩
    unfold f_X7_addStaged_29
    rw [if_pos (by simp (disch := omega) only [↓reduceIte, add_i0, cast_add1, cast_sub1, toNat120, i32_lit, i32_neg, i32_add, i32_sub, i32_mul, i32_nat, i32_le, i32_lt, i32_eq, inB_i, Int.toNat_natCast, mI_sI_eq, mI_sI_ne, mR_sR_eq, mR_sR_ne, mI_sR, mR_sI, mK_sI, mN_sI, mn_sI, mJ_sI, mK_sR, mN_sR, mn_sR, mJ_sR, mI_wI, mR_wI, mK_wI, mN_wI, mn_wI, mJ_wI, ↓bnd_of, ↓bndX_r, ↓bndX_l, ↓ap_nr, bnd_of, bndX_r, bndX_l, if_true, if_false, ite_true, ite_false, not_true_eq_false, not_false_eq_true, Nat.reduceAdd, Nat.reduceMul, Nat.reduceEqDiff, Int.reduceToNat, Int.reduceNeg, Ilt_t, Ilt_f, Ile_t, Ile_f, Ieq_t, Ieq_f, Nlt_t, Nlt_f, Nle_t, Nle_f, Neq_t, Neq_f, or_true, true_or, or_false, false_or, and_true, true_and, and_false, false_and, ne_eq, or_self, and_self, decide_true, decide_false, Bool.false_eq_true])]
  | succ k ih =>
    intro j m M hj hm hL hc h6
    obtain ⟨m, rfl⟩ : ∃ q, m = q + 1 := ⟨m - 1, by omega⟩
    have k18 : mK M 18 = 8 := by simp only [hL.o]
    have r180 : mR M 18 0 = 19 := by simp only [hL.o]
    have k19 : mK M 19 = 23 := by simp only [hL.o]
    have n19 : mN M 19 = 8 := by simp only [hL.o]
    have k6 : mK M 6 = 21 := by simp only [hL.o]
    have n6 : mN M 6 = 8 := by simp only [hL.o]
    have hca := hc.at21 (l := j) (by omega)
    have rj : mR M 19 j = 21 + 4 * j := by simp only [hca.o]
    have kj : mK M (21 + 4 * j) = 3 := by simp only [hca.o]
    have inj : inB (i32 (j : Int)) 8 = true := by simp (disch := omega) only [↓reduceIte, add_i0, cast_add1, cast_sub1, toNat120, i32_lit, i32_neg, i32_add, i32_sub, i32_mul, i32_nat, i32_le, i32_lt, i32_eq, inB_i, Int.toNat_natCast, mI_sI_eq, mI_sI_ne, mR_sR_eq, mR_sR_ne, mI_sR, mR_sI, mK_sI, mN_sI, mn_sI, mJ_sI, mK_sR, mN_sR, mn_sR, mJ_sR, mI_wI, mR_wI, mK_wI, mN_wI, mn_wI, mJ_wI, ↓bnd_of, ↓bndX_r, ↓bndX_l, ↓ap_nr, bnd_of, bndX_r, bndX_l, if_true, if_false, ite_true, ite_false, not_true_eq_false, not_false_eq_true, Nat.reduceAdd, Nat.reduceMul, Nat.reduceEqDiff, Int.reduceToNat, Int.reduceNeg, Ilt_t, Ilt_f, Ile_t, Ile_f, Ieq_t, Ieq_f, Nlt_t, Nlt_f, Nle_t, Nle_f, Neq_t, Neq_f, or_true, true_or, or_false, false_or, and_true, true_and, and_false, false_and, ne_eq, or_self, and_self, decide_true, decide_false, Bool.false_eq_true]
    have lt : ¬ (i32 (S.nl : Int) ≤ i32 (j : Int)) := by simp (disch := omega) only [↓reduceIte, add_i0, cast_add1, cast_sub1, toNat120, i32_lit, i32_neg, i32_add, i32_sub, i32_mul, i32_nat, i32_le, i32_lt, i32_eq, inB_i, Int.toNat_natCast, mI_sI_eq, mI_sI_ne, mR_sR_eq, mR_sR_ne, mI_sR, mR_sI, mK_sI, mN_sI, mn_sI, mJ_sI, mK_sR, mN_sR, mn_sR, mJ_sR, mI_wI, mR_wI, mK_wI, mN_wI, mn_wI, mJ_wI, ↓bnd_of, ↓bndX_r, ↓bndX_l, ↓ap_nr, bnd_of, bndX_r, bndX_l, if_true, if_false, ite_true, ite_false, not_true_eq_false, not_false_eq_true, Nat.reduceAdd, Nat.reduceMul, Nat.reduceEqDiff, Int.reduceToNat, Int.reduceNeg, Ilt_t, Ilt_f, Ile_t, Ile_f, Ieq_t, Ieq_f, Nlt_t, Nlt_f, Nle_t, Nle_f, Neq_t, Neq_f, or_true, true_or, or_false, false_or, and_true, true_and, and_false, false_and, ne_eq, or_self, and_self, decide_true, decide_false, Bool.false_eq_true]
    have e6 := h6 j (by omega)
    obtain ⟨M1, em⟩ : ∃ M1, sI M (21 + 4 * j) 3 (i32 (B.sz j : Int)) = M1 := ⟨_, rfl⟩
    have g1 : Chg (fun a i => 21 ≤ a ∧ a ≤ 52 ∧ i = 3) M M1 := by rw [← em]; exact (Chg.rf _ M).sI (by omega)
    obtain ⟨M2, e2, g2, w1, w2, w3⟩ := ih (j + 1) m M1 (by omega) (by omega) (hL.all g1) (hc.all g1) (fun l hl => by rw [g1.i (by omega)]; exact h6 l hl)
    refine ⟨M2, ?_, g1.tr g2, fun l h1 h2 => ?_, fun l h => ?_, fun a i h => ?_⟩
    · rw [← e2]
      conv => lhs; unfold f_X7_addStaged_29
      rw [if_neg lt, if_pos k18, r180, if_pos k19, n19, if_pos inj, if_pos k6, n6, if_pos inj, nat_i (by omega), rj, if_pos kj, e6, ap_of, em, k_add1]
    · by_cases c : l = j
      · subst c
        rw [w2 l (by omega), ← em, mI_sI_eq]
      · exact w1 l (by omega) h2
    · rw [w2 l (by omega), ← em, mI_sI_ne (by omega)]
    · rw [w3 a i h, ← em, mI_sI_ne (Or.inl (h j (by omega)))]
theorem X7_addStaged {A B : St} {n m : Nat} {Bs : Nat → St} (hS : S.ok) (hL : CLay M) (hc : ColLay M 21) (hm : 164 ≤ mn M) (hm2 : mn M + 1 < 900000) (hX : CX M S A B) (hB : B.ok) (hle : ∀ l, S.nl ≤ l → B.sz l = A.sz l) (hr : mI M 18 1 = i32 A.rc) (hrc : B.rc = A.rc + m) (heq : Eqv (cutN S.nl m B) A) (hac : ActsC M 18 20 S.nl n Bs) (hBs : Bs n = A) : ∃ M', f_X7_addStaged 18 (i32 B.rc) 6 (i32 S.nl) M = some ((), M') ∧ Gw acI acR M M' ∧ CC M' 21 S.fu B ∧ mI M' 18 1 = i32 B.rc ∧ ActsC M' 18 20 S.nl (nK n) (bsK n Bs B) ∧ mn M' = mn M + 1 := by
  have hnl := hS.2.1
  have hA := hX.1.1
  obtain ⟨M1, M2, e1, k1, e2, g2, q2, n2, a2⟩ := newAct (nl := S.nl) hL hm hac (i32 0) (i32 0) (i32 0) (i32 (m : Int)) (r := 0) (by omega) (A' := B) (fun M1 g1 n1 w1 w2 w3 w4 w5 w6 => by
    rw [hBs]
    exact ⟨w1, by omega, by omega, hA, Or.inl ⟨w2, m, w5, by omega, heq⟩⟩)
  have hL2 := hL.gw g2 acR_dy
  have hc2 := hc.gw (Or.inl rfl) g2 acR_dy
  obtain ⟨M3, em⟩ : ∃ M3, sI M2 18 1 (i32 (B.rc : Int)) = M3 := ⟨_, rfl⟩
  have g3 : Chg (fun a j => a = 18 ∧ j = 1) M2 M3 := by rw [← em]; exact (Chg.rf _ M2).sI ⟨rfl, rfl⟩
  have hX3 : CX M3 S A B := hX.cg (fun a j q => by rw [g3.i (by omega), q2 a j (by omega) (by omega)])
  have hL3 := hL2.all g3
  obtain ⟨M4, e4, g4, w1, w2, w3⟩ := X7_staged29 (B := B) hS S.nl 0 FUEL M3 (by omega) (by unfold FUEL; omega) hL3 (hc2.all g3) hX3.2.2.2.1
  have e4 : f_X7_addStaged_29 FUEL 18 6 (i32 S.nl) (0 : Int32) M3 = some ((), M4) := e4
  have k18 : mK M 18 = 8 := by simp only [hL.o]
  have k18n : mK (mNew M 1 0) 18 = 8 := by rw [mK_new_ne (by omega)]; exact k18
  have i18n : mI (mNew M 1 0) 18 1 = i32 A.rc := by rw [mI_new_ne (by omega)]; exact hr
  have k182 : mK M2 18 = 8 := by simp only [hL2.o]
  have ed : i32 (B.rc : Int) - i32 (A.rc : Int) = i32 (m : Int) := by
    rw [i32_sub, hrc]
    congr 1
    omega
  have e1 : f_X0_init (mn M + 1) (0 : Int32) (0 : Int32) (0 : Int32) (i32 (m : Int)) 0 (mNew M 1 0) = some ((), M1) := e1
  have g34 : Gw acI acR M2 M4 := ((g3.mono (fun a j q => by unfold acI; omega)).tr (g4.mono (fun a j q => by unfold acI; omega))).gw acI_lt
  refine ⟨M4, ?_, g2.tr g34, ?_, ?_, ?_, ?_⟩
  · unfold f_X7_addStaged
    rw [if_pos hm2, if_pos (okBn (fun r hr => by
      simp only [List.mem_cons, List.not_mem_nil, or_false] at hr
      omega)), ap_of, if_pos k18n, if_pos (by omega), i18n, ed, bx e1, if_pos k1, bx e2, if_pos k182, ap_of, em, e4]
  · obtain ⟨⟨c0, c1, c2, c3, c4, c5, c6⟩, x2, x3, x4, x5⟩ := hX3
    have hsz := hB.2.2.2.1
    refine ⟨hB, fun l hl => ?_, fun l j hl hj => ?_, fun l j hl hj => ?_, fun l j hl hj => ?_, fun l hl => ?_, c6⟩
    · by_cases q : l < S.nl
      · exact w1 l (by omega) q
      · rw [w2 l (by omega), c1 l hl, hle l (by omega)]
    · rw [w3 _ _ (fun k hk => by omega)]; exact (x5 l j hl hj (by have := hsz l; omega)).1
    · rw [w3 _ _ (fun k hk => by omega)]; exact (x5 l j hl hj (by have := hsz l; omega)).2.1
    · rw [w3 _ _ (fun k hk => by omega)]; exact (x5 l j hl hj (by have := hsz l; omega)).2.2
    · rw [g4.i (by omega)]; exact c5 l hl
  · rw [g4.i (by omega), ← em, mI_sI_eq]
  · refine ⟨a2.1, ?_, fun k hk => ?_⟩
    · rw [g4.i (by omega), g3.i (by omega)]; exact a2.2.1
    · rw [g4.r, g3.r]
      exact ((a2.2.2 k hk).old (g3.old (fun a j q => by omega))).old (g4.old (fun a j q => by omega))
  · rw [g4.2.2.1, g3.2.2.1, n2]
end
