/-! pipe in the reference -/
section
variable {M : Mem} {tb : Nat → Int} {n e p : Nat}
theorem RLay.pir {M M' : Mem} (h : RLay M) (g : Chg piR M M') : RLay M' := h.scr (g.scr piR_scr)
theorem TXr.pir {M M' : Mem} (h : TXr M tb n) (g : Chg piR M M') : TXr M' tb n := h.chg g (by unfold piR rdR; omega) (fun i => by unfold piR rdR; omega)
theorem rdR_pi : ∀ a j, rdR a j → piR a j := fun a j q => Or.inl q
theorem tkR_pi : ∀ a j, tkR a j → piR a j := fun a j q => Or.inl (tkR_rd a j q)
theorem RP8.chg {M M' : Mem} {P : Pp} (h : RP8 M P) (g : Chg rdR M M') : RP8 M' P := ⟨fun k hk => by rw [g.i (by unfold rdR; omega)]; exact h.1 k hk, fun k hk => by rw [g.i (by unfold rdR; omega)]; exact h.2 k hk⟩
theorem X12_pipe60b {M1 : Mem} {f : Int} {b : Nat} {k16 : Nat → Int32 → Mem → Option (Int32 × Mem)} (hL1 : RLay M1) (hB : RBad M1 f b) (x y : Int32) : f_X12_pipe_60 k16 134 x y M1 = f_X12_pipe_119 134 x M1 := by
  obtain ⟨b1, b2, b3, b4⟩ := hB
  have nz : ¬ (mI M1 134 12 = i32 0) := by rw [b1]; exact i32_ne (by omega) (by omega) (by omega) (by omega) (by omega)
  unfold f_X12_pipe_60
  rw [if_pos hL1.k, if_neg (by exact nz)]
theorem X12_pipe49b {M1 : Mem} {f : Int} {b pn : Nat} {k16 : Nat → Int32 → Mem → Option (Int32 × Mem)} (hL1 : RLay M1) (hB : RBad M1 f b) (y : Int32) : f_X12_pipe_49 k16 134 (i32 pn) y M1 = f_X12_pipe_119 134 (i32 pn) M1 := by
  have e2 := X12_wrongN hL1 hB (2 : Int32)
  unfold f_X12_pipe_49
  by_cases c : i32 (pn : Int) = (8 : Int32)
  · rw [if_pos c, if_pos hL1.k, bx e2, X12_pipe60b hL1 hB]
  · rw [if_neg c, X12_pipe60b hL1 hB]
theorem X12_pipe16b {M1 : Mem} {f : Int} {b : Nat} (hL1 : RLay M1) (hB : RBad M1 f b) (m : Nat) (x : Int32) : f_X12_pipe_16 (m + 1) 134 x M1 = f_X12_pipe_119 134 x M1 := by
  obtain ⟨b1, b2, b3, b4⟩ := hB
  have nz : ¬ (mI M1 134 12 = i32 0) := by rw [b1]; exact i32_ne (by omega) (by omega) (by omega) (by omega) (by omega)
  unfold f_X12_pipe_16
  rw [if_pos hL1.k, if_neg (by exact nz)]
theorem X12_pipe_e0 {M1 : Mem} {pn : Nat} {sw : Int} {k16 : Nat → Int32 → Mem → Option (Int32 × Mem)} (hL : RLay M) (hbad : mI M 134 12 = i32 0) (hp8 : pn < 8) (s0 : 0 ≤ sw) (s6 : sw ≤ 6) (e1 : f_X12_stepOn 134 M = some ((), M1)) (hL1 : RLay M1) : f_X12_pipe_49 k16 134 (i32 pn) (i32 sw) M = f_X12_pipe_103 k16 134 (i32 pn) 159 (i32 ((8 + pn : Nat) : Int)) 134 (i32 (if sw = 2 then 1 else 0)) (sI M1 158 (8 + pn) (i32 sw)) := by
  have n8 : ¬ (i32 (pn : Int) = i32 8) := i32_ne (by omega) (by omega) (by omega) (by omega) (by omega)
  have r44 : mR M1 134 44 = 158 := by simp only [hL1.o]
  have k44 : mK M1 158 = 21 := by simp only [hL1.o]
  have n44 : mN M1 158 = 16 := by simp only [hL1.o]
  have r45 : mR M1 134 45 = 159 := by simp only [hL1.o]
  have e8 : (8 : Int32) + i32 (pn : Int) = i32 ((8 + pn : Nat) : Int) := by rw [i32_lit, i32_add]; congr 1
  have in8 : inB (i32 ((8 + pn : Nat) : Int)) 16 = true := by simp (disch := omega) only [↓reduceIte, add_i0, cast_add1, cast_sub1, toNat120, i32_lit, i32_neg, i32_add, i32_sub, i32_mul, i32_nat, i32_le, i32_lt, i32_eq, inB_i, Int.toNat_natCast, mI_sI_eq, mI_sI_ne, mR_sR_eq, mR_sR_ne, mI_sR, mR_sI, mK_sI, mN_sI, mn_sI, mJ_sI, mK_sR, mN_sR, mn_sR, mJ_sR, mI_wI, mR_wI, mK_wI, mN_wI, mn_wI, mJ_wI, ↓bnd_of, ↓bndX_r, ↓bndX_l, ↓ap_nr, bnd_of, bndX_r, bndX_l, if_true, if_false, ite_true, ite_false, not_true_eq_false, not_false_eq_true, Nat.reduceAdd, Nat.reduceMul, Nat.reduceEqDiff, Int.reduceToNat, Int.reduceNeg, Ilt_t, Ilt_f, Ile_t, Ile_f, Ieq_t, Ieq_f, Nlt_t, Nlt_f, Nle_t, Nle_f, Neq_t, Neq_f, or_true, true_or, or_false, false_or, and_true, true_and, and_false, false_and, ne_eq, or_self, and_self, decide_true, decide_false, Bool.false_eq_true]
  have nt := nat_i (k := 8 + pn) (by omega)
  unfold f_X12_pipe_49
  rw [if_neg (by exact n8)]
  unfold f_X12_pipe_60
  rw [if_pos hL.k, if_pos (by rw [hbad]; rfl), bx e1, if_pos hL1.k, r44, if_pos k44, e8, n44, if_pos in8, ap_of, nt, if_pos (by exact hL1.k), mR_sI, r45]
  by_cases c5 : sw = 2
  · rw [if_pos (by rw [c5]; rfl), if_pos c5]
    rfl
  · have c6 : ¬ (i32 sw = i32 2) := i32_ne (by omega) (by omega) (by omega) (by omega) c5
    rw [if_neg (by exact c6), if_neg c5]
    rfl
theorem X12_pipe_103s {MA M2 M3 : Mem} {pn : Nat} {v : Int32} {ls : Int32} {k16 : Nat → Int32 → Mem → Option (Int32 × Mem)} (hLA : RLay MA) (hp8 : pn < 8) (e2 : f_X12_readNumber 134 ls MA = some (v, M2)) (hL2 : RLay M2) (e3 : f_X12_mark 134 (59 : Int32) (sI M2 159 (8 + pn) v) = some ((), M3)) : f_X12_pipe_103 k16 134 (i32 pn) 159 (i32 ((8 + pn : Nat) : Int)) 134 ls MA = k16 134 (i32 ((pn + 1 : Nat) : Int)) M3 := by
  have k45 : mK M2 159 = 21 := by simp only [hL2.o]
  have n45 : mN M2 159 = 16 := by simp only [hL2.o]
  have in8 : inB (i32 ((8 + pn : Nat) : Int)) 16 = true := by simp (disch := omega) only [↓reduceIte, add_i0, cast_add1, cast_sub1, toNat120, i32_lit, i32_neg, i32_add, i32_sub, i32_mul, i32_nat, i32_le, i32_lt, i32_eq, inB_i, Int.toNat_natCast, mI_sI_eq, mI_sI_ne, mR_sR_eq, mR_sR_ne, mI_sR, mR_sI, mK_sI, mN_sI, mn_sI, mJ_sI, mK_sR, mN_sR, mn_sR, mJ_sR, mI_wI, mR_wI, mK_wI, mN_wI, mn_wI, mJ_wI, ↓bnd_of, ↓bndX_r, ↓bndX_l, ↓ap_nr, bnd_of, bndX_r, bndX_l, if_true, if_false, ite_true, ite_false, not_true_eq_false, not_false_eq_true, Nat.reduceAdd, Nat.reduceMul, Nat.reduceEqDiff, Int.reduceToNat, Int.reduceNeg, Ilt_t, Ilt_f, Ile_t, Ile_f, Ieq_t, Ieq_f, Nlt_t, Nlt_f, Nle_t, Nle_f, Neq_t, Neq_f, or_true, true_or, or_false, false_or, and_true, true_and, and_false, false_and, ne_eq, or_self, and_self, decide_true, decide_false, Bool.false_eq_true]
  have nt := nat_i (k := 8 + pn) (by omega)
  unfold f_X12_pipe_103
  rw [if_pos hLA.k, bx e2, if_pos k45, n45, if_pos in8, ap_of, nt, if_pos (by exact hL2.k), bx e3, k_add1]
theorem X12_pipe16 : ∀ (k m : Nat) (e : Nat) (P : Pp) (M : Mem), e ≤ n → n - e < k → n - e < m → RLay M → TXr M tb n → RTk M tb n e → mI M 134 12 = i32 0 → P.ok → RP8 M P → ∃ (q : Nat) (M' : Mem), f_X12_pipe_16 m 134 (i32 P.n) M = f_X12_pipe_119 134 (i32 q) M' ∧ Chg piR M M' ∧ (match pipF tb n k e P with
    | .inl f => RBad M' f.1 f.2
    | .inr P' => q = P'.n ∧ mI M' 134 12 = i32 0 ∧ P'.ok ∧ RP8 M' P') := by
  intro k
  induction k with
  | zero => intro m e P M h1 h2; omega
  | succ k ih =>
    intro m e P M he hk hm hL hT hC hbad hP hR
    obtain ⟨m, rfl⟩ : ∃ q, m = q + 1 := ⟨m - 1, by omega⟩
    have h700 := hT.2.2.1
    have hb := tk_b tb he
    have kb := tkK_b tb hT.2.2.2 n e
    have hsb := swF_b tb n e
    have hp8 := hP.1
    have k1 := hC.1
    have kk := hL.k
    unfold pipF
    by_cases c0 : tkK tb n e = 0
    · rw [if_pos c0]
      have r0 : rkK tb n e = 0 := by have h1 := kb.2.2.1; have h2 := kb.2.2.2.2.2.1; omega
      rw [r0] at k1
      refine ⟨P.n, M, ?_, Chg.rf _ M, rfl, hbad, hP, hR⟩
      simp (disch := omega) only [↓reduceIte, add_i0, cast_add1, cast_sub1, toNat120, i32_lit, i32_neg, i32_add, i32_sub, i32_mul, i32_nat, i32_le, i32_lt, i32_eq, inB_i, Int.toNat_natCast, mI_sI_eq, mI_sI_ne, mR_sR_eq, mR_sR_ne, mI_sR, mR_sI, mK_sI, mN_sI, mn_sI, mJ_sI, mK_sR, mN_sR, mn_sR, mJ_sR, mI_wI, mR_wI, mK_wI, mN_wI, mn_wI, mJ_wI, ↓bnd_of, ↓bndX_r, ↓bndX_l, ↓ap_nr, bnd_of, bndX_r, bndX_l, if_true, if_false, ite_true, ite_false, not_true_eq_false, not_false_eq_true, Nat.reduceAdd, Nat.reduceMul, Nat.reduceEqDiff, Int.reduceToNat, Int.reduceNeg, Ilt_t, Ilt_f, Ile_t, Ile_f, Ieq_t, Ieq_f, Nlt_t, Nlt_f, Nle_t, Nle_f, Neq_t, Neq_f, or_true, true_or, or_false, false_or, and_true, true_and, and_false, false_and, ne_eq, or_self, and_self, decide_true, decide_false, Bool.false_eq_true, f_X12_pipe_16, kk, hbad, k1]
    · rw [if_neg c0]
      have hlt : tkB tb n e < n := by have := kb.2.2.1; omega
      have r0 : rkK tb n e ≠ 0 := by have h1 := kb.2.2.1; have h2 := kb.2.2.2.2.2.1; omega
      have ew := X12_whichS hL hT hC he hbad
      have hr1 : mR M 134 1 = 136 := by simp only [hL.o]
      have pre : f_X12_pipe_16 (m + 1) 134 (i32 P.n) M = (if i32 (swF tb n e) = (-1 : Int32) then (if mK M 134 = 13 then bnd (f_X12_wrong 134 (1 : Int32) M) fun _ M8 => f_X12_pipe_49 (f_X12_pipe_16 m) 134 (i32 P.n) (i32 (swF tb n e)) M8 else none) else f_X12_pipe_49 (f_X12_pipe_16 m) 134 (i32 P.n) (i32 (swF tb n e)) M) := by
        have z8 : ¬ (mI M 134 8 = i32 0) := by rw [k1]; exact i32_ne (by omega) (by omega) (by omega) (by omega) r0
        conv => lhs; unfold f_X12_pipe_16
        rw [if_pos kk, if_pos (by rw [hbad]; rfl), if_neg (by exact z8), hr1, bx ew]
      rw [pre]
      by_cases c1 : swF tb n e = -1
      · rw [show (if swF tb n e = -1 then (Sum.inl (1, tkB tb n e) : (Int × Nat) ⊕ Pp) else if 8 ≤ P.n then .inl (2, tkB tb n e) else if nfS tb n (tkE tb n e) ≠ 0 then .inl (nfS tb n (tkE tb n e), tkB tb n (tkE tb n e)) else if swF tb n e = 2 ∧ nmS tb n (tkE tb n e) = 0 then .inl (2, tkB tb n (tkE tb n e)) else if tkK tb n (tkE tb n (tkE tb n e)) = 59 then pipF tb n k (tkE tb n (tkE tb n (tkE tb n e))) (P.push (swF tb n e) (nmS tb n (tkE tb n e))) else .inl (1, tkB tb n (tkE tb n (tkE tb n e)))) = .inl (1, tkB tb n e) from if_pos c1]
        rw [c1]
        obtain ⟨M1, e1, g1, q1⟩ := X12_wrong hL hbad hC.2.1 1 (by omega) (by omega)
        have e1 : f_X12_wrong 134 (1 : Int32) M = _ := e1
        have hL1 := hL.rdr g1
        refine ⟨P.n, M1, ?_, g1.mono rdR_pi, q1⟩
        rw [if_pos (by rfl), if_pos kk, bx e1]
        exact X12_pipe49b hL1 q1 _
      · have c1r : ¬ (i32 (swF tb n e) = i32 (-1)) := i32_ne (by omega) (by omega) (by omega) (by omega) c1
        rw [if_neg (show ¬ (i32 (swF tb n e) = (-1 : Int32)) from c1r)]
        rw [if_neg c1]
        by_cases c2 : 8 ≤ P.n
        · rw [if_pos c2]
          obtain ⟨M1, e1, g1, q1⟩ := X12_wrong hL hbad hC.2.1 2 (by omega) (by omega)
          have e1 : f_X12_wrong 134 (2 : Int32) M = _ := e1
          have hL1 := hL.rdr g1
          refine ⟨P.n, M1, ?_, g1.mono rdR_pi, q1⟩
          have p8 : i32 (P.n : Int) = (8 : Int32) := by rw [show P.n = 8 by omega]; rfl
          unfold f_X12_pipe_49
          rw [if_pos p8, if_pos kk, bx e1]
          exact X12_pipe60b hL1 q1 _ _
        · rw [if_neg c2]
          obtain ⟨M1, e1, g1, t1⟩ := X12_stepOn hL hT hC.2.2.2.1 hb.2.2.2.1
          have hL1 := hL.tkr g1
          have hb1 := tk_b tb hb.2.2.2.1
          have gA : Chg piR M (sI M1 158 (8 + P.n) (i32 (swF tb n e))) := (g1.mono tkR_pi).sI (by unfold piR; omega)
          have hLA := hL.pir gA
          have hTA := hT.pir gA
          have hCA : RTk (sI M1 158 (8 + P.n) (i32 (swF tb n e))) tb n (tkE tb n e) := ⟨by simp (disch := omega) only [↓reduceIte, add_i0, cast_add1, cast_sub1, toNat120, i32_lit, i32_neg, i32_add, i32_sub, i32_mul, i32_nat, i32_le, i32_lt, i32_eq, inB_i, Int.toNat_natCast, mI_sI_eq, mI_sI_ne, mR_sR_eq, mR_sR_ne, mI_sR, mR_sI, mK_sI, mN_sI, mn_sI, mJ_sI, mK_sR, mN_sR, mn_sR, mJ_sR, mI_wI, mR_wI, mK_wI, mN_wI, mn_wI, mJ_wI, ↓bnd_of, ↓bndX_r, ↓bndX_l, ↓ap_nr, bnd_of, bndX_r, bndX_l, if_true, if_false, ite_true, ite_false, not_true_eq_false, not_false_eq_true, Nat.reduceAdd, Nat.reduceMul, Nat.reduceEqDiff, Int.reduceToNat, Int.reduceNeg, Ilt_t, Ilt_f, Ile_t, Ile_f, Ieq_t, Ieq_f, Nlt_t, Nlt_f, Nle_t, Nle_f, Neq_t, Neq_f, or_true, true_or, or_false, false_or, and_true, true_and, and_false, false_and, ne_eq, or_self, and_self, decide_true, decide_false, Bool.false_eq_true, t1.1], by simp (disch := omega) only [↓reduceIte, add_i0, cast_add1, cast_sub1, toNat120, i32_lit, i32_neg, i32_add, i32_sub, i32_mul, i32_nat, i32_le, i32_lt, i32_eq, inB_i, Int.toNat_natCast, mI_sI_eq, mI_sI_ne, mR_sR_eq, mR_sR_ne, mI_sR, mR_sI, mK_sI, mN_sI, mn_sI, mJ_sI, mK_sR, mN_sR, mn_sR, mJ_sR, mI_wI, mR_wI, mK_wI, mN_wI, mn_wI, mJ_wI, ↓bnd_of, ↓bndX_r, ↓bndX_l, ↓ap_nr, bnd_of, bndX_r, bndX_l, if_true, if_false, ite_true, ite_false, not_true_eq_false, not_false_eq_true, Nat.reduceAdd, Nat.reduceMul, Nat.reduceEqDiff, Int.reduceToNat, Int.reduceNeg, Ilt_t, Ilt_f, Ile_t, Ile_f, Ieq_t, Ieq_f, Nlt_t, Nlt_f, Nle_t, Nle_f, Neq_t, Neq_f, or_true, true_or, or_false, false_or, and_true, true_and, and_false, false_and, ne_eq, or_self, and_self, decide_true, decide_false, Bool.false_eq_true, t1.2.1], by simp (disch := omega) only [↓reduceIte, add_i0, cast_add1, cast_sub1, toNat120, i32_lit, i32_neg, i32_add, i32_sub, i32_mul, i32_nat, i32_le, i32_lt, i32_eq, inB_i, Int.toNat_natCast, mI_sI_eq, mI_sI_ne, mR_sR_eq, mR_sR_ne, mI_sR, mR_sI, mK_sI, mN_sI, mn_sI, mJ_sI, mK_sR, mN_sR, mn_sR, mJ_sR, mI_wI, mR_wI, mK_wI, mN_wI, mn_wI, mJ_wI, ↓bnd_of, ↓bndX_r, ↓bndX_l, ↓ap_nr, bnd_of, bndX_r, bndX_l, if_true, if_false, ite_true, ite_false, not_true_eq_false, not_false_eq_true, Nat.reduceAdd, Nat.reduceMul, Nat.reduceEqDiff, Int.reduceToNat, Int.reduceNeg, Ilt_t, Ilt_f, Ile_t, Ile_f, Ieq_t, Ieq_f, Nlt_t, Nlt_f, Nle_t, Nle_f, Neq_t, Neq_f, or_true, true_or, or_false, false_or, and_true, true_and, and_false, false_and, ne_eq, or_self, and_self, decide_true, decide_false, Bool.false_eq_true, t1.2.2.1], by simp (disch := omega) only [↓reduceIte, add_i0, cast_add1, cast_sub1, toNat120, i32_lit, i32_neg, i32_add, i32_sub, i32_mul, i32_nat, i32_le, i32_lt, i32_eq, inB_i, Int.toNat_natCast, mI_sI_eq, mI_sI_ne, mR_sR_eq, mR_sR_ne, mI_sR, mR_sI, mK_sI, mN_sI, mn_sI, mJ_sI, mK_sR, mN_sR, mn_sR, mJ_sR, mI_wI, mR_wI, mK_wI, mN_wI, mn_wI, mJ_wI, ↓bnd_of, ↓bndX_r, ↓bndX_l, ↓ap_nr, bnd_of, bndX_r, bndX_l, if_true, if_false, ite_true, ite_false, not_true_eq_false, not_false_eq_true, Nat.reduceAdd, Nat.reduceMul, Nat.reduceEqDiff, Int.reduceToNat, Int.reduceNeg, Ilt_t, Ilt_f, Ile_t, Ile_f, Ieq_t, Ieq_f, Nlt_t, Nlt_f, Nle_t, Nle_f, Neq_t, Neq_f, or_true, true_or, or_false, false_or, and_true, true_and, and_false, false_and, ne_eq, or_self, and_self, decide_true, decide_false, Bool.false_eq_true, t1.2.2.2.1], fun q => by have := t1.2.2.2.2 q; simp (disch := omega) only [↓reduceIte, add_i0, cast_add1, cast_sub1, toNat120, i32_lit, i32_neg, i32_add, i32_sub, i32_mul, i32_nat, i32_le, i32_lt, i32_eq, inB_i, Int.toNat_natCast, mI_sI_eq, mI_sI_ne, mR_sR_eq, mR_sR_ne, mI_sR, mR_sI, mK_sI, mN_sI, mn_sI, mJ_sI, mK_sR, mN_sR, mn_sR, mJ_sR, mI_wI, mR_wI, mK_wI, mN_wI, mn_wI, mJ_wI, ↓bnd_of, ↓bndX_r, ↓bndX_l, ↓ap_nr, bnd_of, bndX_r, bndX_l, if_true, if_false, ite_true, ite_false, not_true_eq_false, not_false_eq_true, Nat.reduceAdd, Nat.reduceMul, Nat.reduceEqDiff, Int.reduceToNat, Int.reduceNeg, Ilt_t, Ilt_f, Ile_t, Ile_f, Ieq_t, Ieq_f, Nlt_t, Nlt_f, Nle_t, Nle_f, Neq_t, Neq_f, or_true, true_or, or_false, false_or, and_true, true_and, and_false, false_and, ne_eq, or_self, and_self, decide_true, decide_false, Bool.false_eq_true, this]⟩
          have hbadA : mI (sI M1 158 (8 + P.n) (i32 (swF tb n e))) 134 12 = i32 0 := by
            rw [mI_sI_ne (by omega), g1.i (by unfold tkR; omega)]; exact hbad
          rw [X12_pipe_e0 hL hbad (show P.n < 8 by omega) (by omega) hsb.2.1 e1 hL1]
          generalize hMA : sI M1 158 (8 + P.n) (i32 (swF tb n e)) = MA at gA hLA hTA hCA hbadA
          generalize hlsd : (if swF tb n e = 2 then (1 : Int) else 0) = ls
          have hls : 0 ≤ ls ∧ ls ≤ 1 := by rw [← hlsd]; split <;> omega
          have hls2 : swF tb n e = 2 → ls = 1 := fun q => by rw [← hlsd, if_pos q]
          have hls3 : swF tb n e ≠ 2 → ls = 0 := fun q => by rw [← hlsd, if_neg q]
          have hRA : ∀ k, k < P.n → mI MA 158 (8 + k) = i32 (P.kd k) ∧ mI MA 159 (8 + k) = i32 (P.nu k) := by
            intro k hk
            rw [← hMA]
            have q1 := hR.1 k hk
            have q2 := hR.2 k hk
            rw [← g1.i (a := 158) (j := 8 + k) (by unfold tkR; omega)] at q1
            rw [← g1.i (a := 159) (j := 8 + k) (by unfold tkR; omega)] at q2
            refine ⟨?_, ?_⟩
            · simp (disch := omega) only [↓reduceIte, add_i0, cast_add1, cast_sub1, toNat120, i32_lit, i32_neg, i32_add, i32_sub, i32_mul, i32_nat, i32_le, i32_lt, i32_eq, inB_i, Int.toNat_natCast, mI_sI_eq, mI_sI_ne, mR_sR_eq, mR_sR_ne, mI_sR, mR_sI, mK_sI, mN_sI, mn_sI, mJ_sI, mK_sR, mN_sR, mn_sR, mJ_sR, mI_wI, mR_wI, mK_wI, mN_wI, mn_wI, mJ_wI, ↓bnd_of, ↓bndX_r, ↓bndX_l, ↓ap_nr, bnd_of, bndX_r, bndX_l, if_true, if_false, ite_true, ite_false, not_true_eq_false, not_false_eq_true, Nat.reduceAdd, Nat.reduceMul, Nat.reduceEqDiff, Int.reduceToNat, Int.reduceNeg, Ilt_t, Ilt_f, Ile_t, Ile_f, Ieq_t, Ieq_f, Nlt_t, Nlt_f, Nle_t, Nle_f, Neq_t, Neq_f, or_true, true_or, or_false, false_or, and_true, true_and, and_false, false_and, ne_eq, or_self, and_self, decide_true, decide_false, Bool.false_eq_true, q1]
            · simp (disch := omega) only [↓reduceIte, add_i0, cast_add1, cast_sub1, toNat120, i32_lit, i32_neg, i32_add, i32_sub, i32_mul, i32_nat, i32_le, i32_lt, i32_eq, inB_i, Int.toNat_natCast, mI_sI_eq, mI_sI_ne, mR_sR_eq, mR_sR_ne, mI_sR, mR_sI, mK_sI, mN_sI, mn_sI, mJ_sI, mK_sR, mN_sR, mn_sR, mJ_sR, mI_wI, mR_wI, mK_wI, mN_wI, mn_wI, mJ_wI, ↓bnd_of, ↓bndX_r, ↓bndX_l, ↓ap_nr, bnd_of, bndX_r, bndX_l, if_true, if_false, ite_true, ite_false, not_true_eq_false, not_false_eq_true, Nat.reduceAdd, Nat.reduceMul, Nat.reduceEqDiff, Int.reduceToNat, Int.reduceNeg, Ilt_t, Ilt_f, Ile_t, Ile_f, Ieq_t, Ieq_f, Nlt_t, Nlt_f, Nle_t, Nle_f, Neq_t, Neq_f, or_true, true_or, or_false, false_or, and_true, true_and, and_false, false_and, ne_eq, or_self, and_self, decide_true, decide_false, Bool.false_eq_true, q2]
          have hRA2 : mI MA 158 (8 + P.n) = i32 (swF tb n e) := by rw [← hMA]; exact mI_sI_eq
          by_cases cF : nfS tb n (tkE tb n e) ≠ 0 ∨ nmS tb n (tkE tb n e) < ls
          · obtain ⟨M2, e2, g2, q2⟩ := X12_readNumberF hLA hTA hCA hb.2.2.2.1 hbadA _ hls.1 hls.2 cF
            have hL2 := hLA.rdr g2
            have gB : Chg piR M (sI M2 159 (8 + P.n) (i32 0)) := (gA.tr (g2.mono rdR_pi)).sI (by unfold piR; omega)
            have hLB := hL.pir gB
            have qB : RBad (sI M2 159 (8 + P.n) (i32 0)) (if nfS tb n (tkE tb n e) ≠ 0 then nfS tb n (tkE tb n e) else 2) (tkB tb n (tkE tb n e)) := ⟨by simp (disch := omega) only [↓reduceIte, add_i0, cast_add1, cast_sub1, toNat120, i32_lit, i32_neg, i32_add, i32_sub, i32_mul, i32_nat, i32_le, i32_lt, i32_eq, inB_i, Int.toNat_natCast, mI_sI_eq, mI_sI_ne, mR_sR_eq, mR_sR_ne, mI_sR, mR_sI, mK_sI, mN_sI, mn_sI, mJ_sI, mK_sR, mN_sR, mn_sR, mJ_sR, mI_wI, mR_wI, mK_wI, mN_wI, mn_wI, mJ_wI, ↓bnd_of, ↓bndX_r, ↓bndX_l, ↓ap_nr, bnd_of, bndX_r, bndX_l, if_true, if_false, ite_true, ite_false, not_true_eq_false, not_false_eq_true, Nat.reduceAdd, Nat.reduceMul, Nat.reduceEqDiff, Int.reduceToNat, Int.reduceNeg, Ilt_t, Ilt_f, Ile_t, Ile_f, Ieq_t, Ieq_f, Nlt_t, Nlt_f, Nle_t, Nle_f, Neq_t, Neq_f, or_true, true_or, or_false, false_or, and_true, true_and, and_false, false_and, ne_eq, or_self, and_self, decide_true, decide_false, Bool.false_eq_true, q2.1], by simp (disch := omega) only [↓reduceIte, add_i0, cast_add1, cast_sub1, toNat120, i32_lit, i32_neg, i32_add, i32_sub, i32_mul, i32_nat, i32_le, i32_lt, i32_eq, inB_i, Int.toNat_natCast, mI_sI_eq, mI_sI_ne, mR_sR_eq, mR_sR_ne, mI_sR, mR_sI, mK_sI, mN_sI, mn_sI, mJ_sI, mK_sR, mN_sR, mn_sR, mJ_sR, mI_wI, mR_wI, mK_wI, mN_wI, mn_wI, mJ_wI, ↓bnd_of, ↓bndX_r, ↓bndX_l, ↓ap_nr, bnd_of, bndX_r, bndX_l, if_true, if_false, ite_true, ite_false, not_true_eq_false, not_false_eq_true, Nat.reduceAdd, Nat.reduceMul, Nat.reduceEqDiff, Int.reduceToNat, Int.reduceNeg, Ilt_t, Ilt_f, Ile_t, Ile_f, Ieq_t, Ieq_f, Nlt_t, Nlt_f, Nle_t, Nle_f, Neq_t, Neq_f, or_true, true_or, or_false, false_or, and_true, true_and, and_false, false_and, ne_eq, or_self, and_self, decide_true, decide_false, Bool.false_eq_true, q2.2.1], q2.2.2⟩
            have e3 := X12_markN hLB qB (59 : Int32)
            obtain ⟨m, rfl⟩ : ∃ q, m = q + 1 := ⟨m - 1, by omega⟩
            refine ⟨P.n + 1, sI M2 159 (8 + P.n) (i32 0), ?_, gB, ?_⟩
            · rw [X12_pipe_103s hLA (by omega) e2 hL2 e3, X12_pipe16b hLB qB]
            · by_cases c3 : nfS tb n (tkE tb n e) = 0
              · rw [if_neg (by omega)] at qB ⊢
                have c4 : swF tb n e = 2 ∧ nmS tb n (tkE tb n e) = 0 := by
                  have hnb := nmS_b tb c3 hT.2.2.2
                  by_cases c5 : swF tb n e = 2
                  · have := hls2 c5; omega
                  · have := hls3 c5; omega
                rw [if_pos c4]
                exact qB
              · rw [if_pos c3] at qB ⊢
                exact qB
          · have c3 : nfS tb n (tkE tb n e) = 0 := by omega
            have hnb := nmS_b tb c3 hT.2.2.2
            have c4 : ¬ (swF tb n e = 2 ∧ nmS tb n (tkE tb n e) = 0) := fun q => cF (Or.inr (by have := hls2 q.1; have := q.2; omega))
            rw [if_neg (by omega), if_neg c4]
            obtain ⟨M2, e2, g2, t2⟩ := X12_readNumberY hLA hTA hCA hb.2.2.2.1 hbadA _ hls.1 hls.2 c3 (by omega)
            have hL2 := hLA.tkr g2
            have gB : Chg piR M (sI M2 159 (8 + P.n) (i32 (nmS tb n (tkE tb n e)))) := (gA.tr (g2.mono tkR_pi)).sI (by unfold piR; omega)
            have hLB := hL.pir gB
            have hTB := hT.pir gB
            have tB : RTk (sI M2 159 (8 + P.n) (i32 (nmS tb n (tkE tb n e)))) tb n (tkE tb n (tkE tb n e)) := ⟨by simp (disch := omega) only [↓reduceIte, add_i0, cast_add1, cast_sub1, toNat120, i32_lit, i32_neg, i32_add, i32_sub, i32_mul, i32_nat, i32_le, i32_lt, i32_eq, inB_i, Int.toNat_natCast, mI_sI_eq, mI_sI_ne, mR_sR_eq, mR_sR_ne, mI_sR, mR_sI, mK_sI, mN_sI, mn_sI, mJ_sI, mK_sR, mN_sR, mn_sR, mJ_sR, mI_wI, mR_wI, mK_wI, mN_wI, mn_wI, mJ_wI, ↓bnd_of, ↓bndX_r, ↓bndX_l, ↓ap_nr, bnd_of, bndX_r, bndX_l, if_true, if_false, ite_true, ite_false, not_true_eq_false, not_false_eq_true, Nat.reduceAdd, Nat.reduceMul, Nat.reduceEqDiff, Int.reduceToNat, Int.reduceNeg, Ilt_t, Ilt_f, Ile_t, Ile_f, Ieq_t, Ieq_f, Nlt_t, Nlt_f, Nle_t, Nle_f, Neq_t, Neq_f, or_true, true_or, or_false, false_or, and_true, true_and, and_false, false_and, ne_eq, or_self, and_self, decide_true, decide_false, Bool.false_eq_true, t2.1], by simp (disch := omega) only [↓reduceIte, add_i0, cast_add1, cast_sub1, toNat120, i32_lit, i32_neg, i32_add, i32_sub, i32_mul, i32_nat, i32_le, i32_lt, i32_eq, inB_i, Int.toNat_natCast, mI_sI_eq, mI_sI_ne, mR_sR_eq, mR_sR_ne, mI_sR, mR_sI, mK_sI, mN_sI, mn_sI, mJ_sI, mK_sR, mN_sR, mn_sR, mJ_sR, mI_wI, mR_wI, mK_wI, mN_wI, mn_wI, mJ_wI, ↓bnd_of, ↓bndX_r, ↓bndX_l, ↓ap_nr, bnd_of, bndX_r, bndX_l, if_true, if_false, ite_true, ite_false, not_true_eq_false, not_false_eq_true, Nat.reduceAdd, Nat.reduceMul, Nat.reduceEqDiff, Int.reduceToNat, Int.reduceNeg, Ilt_t, Ilt_f, Ile_t, Ile_f, Ieq_t, Ieq_f, Nlt_t, Nlt_f, Nle_t, Nle_f, Neq_t, Neq_f, or_true, true_or, or_false, false_or, and_true, true_and, and_false, false_and, ne_eq, or_self, and_self, decide_true, decide_false, Bool.false_eq_true, t2.2.1], by simp (disch := omega) only [↓reduceIte, add_i0, cast_add1, cast_sub1, toNat120, i32_lit, i32_neg, i32_add, i32_sub, i32_mul, i32_nat, i32_le, i32_lt, i32_eq, inB_i, Int.toNat_natCast, mI_sI_eq, mI_sI_ne, mR_sR_eq, mR_sR_ne, mI_sR, mR_sI, mK_sI, mN_sI, mn_sI, mJ_sI, mK_sR, mN_sR, mn_sR, mJ_sR, mI_wI, mR_wI, mK_wI, mN_wI, mn_wI, mJ_wI, ↓bnd_of, ↓bndX_r, ↓bndX_l, ↓ap_nr, bnd_of, bndX_r, bndX_l, if_true, if_false, ite_true, ite_false, not_true_eq_false, not_false_eq_true, Nat.reduceAdd, Nat.reduceMul, Nat.reduceEqDiff, Int.reduceToNat, Int.reduceNeg, Ilt_t, Ilt_f, Ile_t, Ile_f, Ieq_t, Ieq_f, Nlt_t, Nlt_f, Nle_t, Nle_f, Neq_t, Neq_f, or_true, true_or, or_false, false_or, and_true, true_and, and_false, false_and, ne_eq, or_self, and_self, decide_true, decide_false, Bool.false_eq_true, t2.2.2.1], by simp (disch := omega) only [↓reduceIte, add_i0, cast_add1, cast_sub1, toNat120, i32_lit, i32_neg, i32_add, i32_sub, i32_mul, i32_nat, i32_le, i32_lt, i32_eq, inB_i, Int.toNat_natCast, mI_sI_eq, mI_sI_ne, mR_sR_eq, mR_sR_ne, mI_sR, mR_sI, mK_sI, mN_sI, mn_sI, mJ_sI, mK_sR, mN_sR, mn_sR, mJ_sR, mI_wI, mR_wI, mK_wI, mN_wI, mn_wI, mJ_wI, ↓bnd_of, ↓bndX_r, ↓bndX_l, ↓ap_nr, bnd_of, bndX_r, bndX_l, if_true, if_false, ite_true, ite_false, not_true_eq_false, not_false_eq_true, Nat.reduceAdd, Nat.reduceMul, Nat.reduceEqDiff, Int.reduceToNat, Int.reduceNeg, Ilt_t, Ilt_f, Ile_t, Ile_f, Ieq_t, Ieq_f, Nlt_t, Nlt_f, Nle_t, Nle_f, Neq_t, Neq_f, or_true, true_or, or_false, false_or, and_true, true_and, and_false, false_and, ne_eq, or_self, and_self, decide_true, decide_false, Bool.false_eq_true, t2.2.2.2.1], fun q => by have := t2.2.2.2.2 q; simp (disch := omega) only [↓reduceIte, add_i0, cast_add1, cast_sub1, toNat120, i32_lit, i32_neg, i32_add, i32_sub, i32_mul, i32_nat, i32_le, i32_lt, i32_eq, inB_i, Int.toNat_natCast, mI_sI_eq, mI_sI_ne, mR_sR_eq, mR_sR_ne, mI_sR, mR_sI, mK_sI, mN_sI, mn_sI, mJ_sI, mK_sR, mN_sR, mn_sR, mJ_sR, mI_wI, mR_wI, mK_wI, mN_wI, mn_wI, mJ_wI, ↓bnd_of, ↓bndX_r, ↓bndX_l, ↓ap_nr, bnd_of, bndX_r, bndX_l, if_true, if_false, ite_true, ite_false, not_true_eq_false, not_false_eq_true, Nat.reduceAdd, Nat.reduceMul, Nat.reduceEqDiff, Int.reduceToNat, Int.reduceNeg, Ilt_t, Ilt_f, Ile_t, Ile_f, Ieq_t, Ieq_f, Nlt_t, Nlt_f, Nle_t, Nle_f, Neq_t, Neq_f, or_true, true_or, or_false, false_or, and_true, true_and, and_false, false_and, ne_eq, or_self, and_self, decide_true, decide_false, Bool.false_eq_true, this]⟩
            have hbadB : mI (sI M2 159 (8 + P.n) (i32 (nmS tb n (tkE tb n e)))) 134 12 = i32 0 := by
              have : mI M2 134 12 = i32 0 := by rw [g2.i (by unfold tkR; omega)]; exact hbadA
              simp (disch := omega) only [↓reduceIte, add_i0, cast_add1, cast_sub1, toNat120, i32_lit, i32_neg, i32_add, i32_sub, i32_mul, i32_nat, i32_le, i32_lt, i32_eq, inB_i, Int.toNat_natCast, mI_sI_eq, mI_sI_ne, mR_sR_eq, mR_sR_ne, mI_sR, mR_sI, mK_sI, mN_sI, mn_sI, mJ_sI, mK_sR, mN_sR, mn_sR, mJ_sR, mI_wI, mR_wI, mK_wI, mN_wI, mn_wI, mJ_wI, ↓bnd_of, ↓bndX_r, ↓bndX_l, ↓ap_nr, bnd_of, bndX_r, bndX_l, if_true, if_false, ite_true, ite_false, not_true_eq_false, not_false_eq_true, Nat.reduceAdd, Nat.reduceMul, Nat.reduceEqDiff, Int.reduceToNat, Int.reduceNeg, Ilt_t, Ilt_f, Ile_t, Ile_f, Ieq_t, Ieq_f, Nlt_t, Nlt_f, Nle_t, Nle_f, Neq_t, Neq_f, or_true, true_or, or_false, false_or, and_true, true_and, and_false, false_and, ne_eq, or_self, and_self, decide_true, decide_false, Bool.false_eq_true, this]
            have hP2 := Pp.push_ok hP (by omega) (by omega) hsb.2.1 hnb.1 hnb.2.1 c4
            have hRB : RP8 (sI M2 159 (8 + P.n) (i32 (nmS tb n (tkE tb n e)))) (P.push (swF tb n e) (nmS tb n (tkE tb n e))) := by
              refine ⟨fun k hk => ?_, fun k hk => ?_⟩
              · have hk : k < P.n + 1 := hk
                show _ = i32 (upf P.kd P.n (swF tb n e) k)
                by_cases q : k = P.n
                · subst q
                  rw [upf_eq, ← hRA2, ← g2.i (a := 158) (j := 8 + P.n) (by unfold tkR; omega)]
                  simp (disch := omega) only [↓reduceIte, add_i0, cast_add1, cast_sub1, toNat120, i32_lit, i32_neg, i32_add, i32_sub, i32_mul, i32_nat, i32_le, i32_lt, i32_eq, inB_i, Int.toNat_natCast, mI_sI_eq, mI_sI_ne, mR_sR_eq, mR_sR_ne, mI_sR, mR_sI, mK_sI, mN_sI, mn_sI, mJ_sI, mK_sR, mN_sR, mn_sR, mJ_sR, mI_wI, mR_wI, mK_wI, mN_wI, mn_wI, mJ_wI, ↓bnd_of, ↓bndX_r, ↓bndX_l, ↓ap_nr, bnd_of, bndX_r, bndX_l, if_true, if_false, ite_true, ite_false, not_true_eq_false, not_false_eq_true, Nat.reduceAdd, Nat.reduceMul, Nat.reduceEqDiff, Int.reduceToNat, Int.reduceNeg, Ilt_t, Ilt_f, Ile_t, Ile_f, Ieq_t, Ieq_f, Nlt_t, Nlt_f, Nle_t, Nle_f, Neq_t, Neq_f, or_true, true_or, or_false, false_or, and_true, true_and, and_false, false_and, ne_eq, or_self, and_self, decide_true, decide_false, Bool.false_eq_true]
                · rw [upf_ne _ _ q, ← (hRA k (by omega)).1, ← g2.i (a := 158) (j := 8 + k) (by unfold tkR; omega)]
                  simp (disch := omega) only [↓reduceIte, add_i0, cast_add1, cast_sub1, toNat120, i32_lit, i32_neg, i32_add, i32_sub, i32_mul, i32_nat, i32_le, i32_lt, i32_eq, inB_i, Int.toNat_natCast, mI_sI_eq, mI_sI_ne, mR_sR_eq, mR_sR_ne, mI_sR, mR_sI, mK_sI, mN_sI, mn_sI, mJ_sI, mK_sR, mN_sR, mn_sR, mJ_sR, mI_wI, mR_wI, mK_wI, mN_wI, mn_wI, mJ_wI, ↓bnd_of, ↓bndX_r, ↓bndX_l, ↓ap_nr, bnd_of, bndX_r, bndX_l, if_true, if_false, ite_true, ite_false, not_true_eq_false, not_false_eq_true, Nat.reduceAdd, Nat.reduceMul, Nat.reduceEqDiff, Int.reduceToNat, Int.reduceNeg, Ilt_t, Ilt_f, Ile_t, Ile_f, Ieq_t, Ieq_f, Nlt_t, Nlt_f, Nle_t, Nle_f, Neq_t, Neq_f, or_true, true_or, or_false, false_or, and_true, true_and, and_false, false_and, ne_eq, or_self, and_self, decide_true, decide_false, Bool.false_eq_true]
              · have hk : k < P.n + 1 := hk
                show _ = i32 (upf P.nu P.n (nmS tb n (tkE tb n e)) k)
                by_cases q : k = P.n
                · subst q
                  rw [upf_eq]
                  exact mI_sI_eq
                · rw [upf_ne _ _ q, ← (hRA k (by omega)).2, ← g2.i (a := 159) (j := 8 + k) (by unfold tkR; omega)]
                  simp (disch := omega) only [↓reduceIte, add_i0, cast_add1, cast_sub1, toNat120, i32_lit, i32_neg, i32_add, i32_sub, i32_mul, i32_nat, i32_le, i32_lt, i32_eq, inB_i, Int.toNat_natCast, mI_sI_eq, mI_sI_ne, mR_sR_eq, mR_sR_ne, mI_sR, mR_sI, mK_sI, mN_sI, mn_sI, mJ_sI, mK_sR, mN_sR, mn_sR, mJ_sR, mI_wI, mR_wI, mK_wI, mN_wI, mn_wI, mJ_wI, ↓bnd_of, ↓bndX_r, ↓bndX_l, ↓ap_nr, bnd_of, bndX_r, bndX_l, if_true, if_false, ite_true, ite_false, not_true_eq_false, not_false_eq_true, Nat.reduceAdd, Nat.reduceMul, Nat.reduceEqDiff, Int.reduceToNat, Int.reduceNeg, Ilt_t, Ilt_f, Ile_t, Ile_f, Ieq_t, Ieq_f, Nlt_t, Nlt_f, Nle_t, Nle_f, Neq_t, Neq_f, or_true, true_or, or_false, false_or, and_true, true_and, and_false, false_and, ne_eq, or_self, and_self, decide_true, decide_false, Bool.false_eq_true, q]
            have hkA := hLA.k
            have hkB := hLB.k
            generalize hMB : sI M2 159 (8 + P.n) (i32 (nmS tb n (tkE tb n e))) = MB at gB hLB hTB tB hbadB hRB hkB
            have hb2 := tk_b tb hb1.2.2.2.1
            have kb2 := tkK_b tb hT.2.2.2 n (tkE tb n (tkE tb n e))
            by_cases c6 : tkK tb n (tkE tb n (tkE tb n e)) = 59
            · rw [if_pos c6]
              obtain ⟨M3, e3, g3, t3⟩ := X12_markY hLB hTB tB hb1.2.2.2.1 hbadB 59 (by omega) (by omega) c6
              have e3 : f_X12_mark 134 (59 : Int32) MB = _ := e3
              have hlt2 : tkB tb n (tkE tb n (tkE tb n e)) < n := by have := kb2.2.2.1; omega
              obtain ⟨q, M4, e4, g4, q4⟩ := ih m (tkE tb n (tkE tb n (tkE tb n e))) (P.push (swF tb n e) (nmS tb n (tkE tb n e))) M3 hb2.2.2.2.1 (by omega) (by omega) (hLB.tkr g3) (hTB.tkr g3) t3 (by rw [g3.i (by unfold tkR; omega)]; exact hbadB) hP2 (hRB.chg (g3.mono tkR_rd))
              refine ⟨q, M4, ?_, gB.tr ((g3.mono tkR_pi).tr g4), q4⟩
              rw [← hMB] at e3
              rw [X12_pipe_103s hLA (by omega) e2 hL2 e3, ← e4]
              rfl
            · rw [if_neg c6]
              obtain ⟨M3, e3, g3, q3⟩ := X12_markF hLB hTB tB hb1.2.2.2.1 hbadB 59 (by omega) (by omega) c6
              have e3 : f_X12_mark 134 (59 : Int32) MB = _ := e3
              obtain ⟨m, rfl⟩ : ∃ q, m = q + 1 := ⟨m - 1, by omega⟩
              refine ⟨P.n + 1, M3, ?_, gB.tr (g3.mono rdR_pi), q3⟩
              have hL3 := hLB.rdr g3
              rw [← hMB] at e3
              rw [X12_pipe_103s hLA (by omega) e2 hL2 e3, X12_pipe16b hL3 q3]
end
