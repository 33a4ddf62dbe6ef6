/-! schema, view in the class: the whole text -/
section
variable {M M' : Mem} {S T : Sc} {s q : Nat} {vw : Bool} {tb : Nat → Int} {n : Nat} {g : Int} {d f : Nat} {dp : Nat → Nat}
theorem X6_readName (hR : SHL M q s S vw tb n) (hC : CSh M q T) (hT : T.ok) (hf : f + 1 = T.nf) (hg : -1 ≤ g) (hgf : g < f) (hgr : T.gr f = g) (h4 : mI M 4 4 = i32 g) (hln : T.ln f = 0) (htw : T.tw f = -1) {e : Nat} (he : e ≤ n) (hk : CTk M tb n e) : ∃ x M', f_X6_readName 4 (i32 f) M = some (i32 x, M') ∧ Chg (shC q) M M' ∧ (∀ j, mI M' 2 j = mI M 2 j) ∧ (∀ j, mI M' 4 j = mI M 4 j) ∧ (if tkK tb n e = 1 then (if tkE tb n e - tkB tb n e ≤ 4 then (if vw = true ∧ ¬ seeO S (shT1 tb n T f e) g (twV vw S (shT1 tb n T f e) g f) (T.kd f) then x = 3 else if fnF (shT2 vw S tb n T g f e) (shT2 vw S tb n T g f e) g f f 0 ≠ -1 then x = 4 else (x = 0 ∧ CSh M' q (shT2 vw S tb n T g f e) ∧ (shT2 vw S tb n T g f e).ok)) else x = 2) else x = 1) := by
  obtain ⟨hL, hq, q1, q2, r40, r41, r42, h43, hTX, hv⟩ := id hR
  have hnf := hT.1
  have hbt := hTX.2.2.2
  have tkb := tkK_b tb hbt n e
  have t := tk_b tb he
  have hn := hTX.2.2.1
  have k4 : mK M 4 = 7 := by simp only [hL.o]
  have k2 : mK M 2 = 10 := by simp only [hL.o]
  have kq : mK M q = 6 := by simp only [hq.o]
  have et : mI M 2 3 = i32 (tkK tb n e) := hk.1
  by_cases c1 : tkK tb n e = 1
  · simp only [if_pos c1]
    have ew := X9_width hL he hk
    by_cases c2 : tkE tb n e - tkB tb n e ≤ 4
    · simp only [if_pos c2]
      obtain ⟨M1, e1, g1, cs1⟩ := X5_putName (tb := tb) (f := f) (L := tkE tb n e - tkB tb n e) hT (by omega) c2 q1 he rfl hL hq hTX hk hC hln
      have gs1 : Chg (shC q) M M1 := g1.mono (fun a j h => by unfold shC; omega)
      have hR1 := hR.chg gs1
      have hL1 := hR1.1
      have hT1 : (shT1 tb n T f e).ok := nam_ok hT c2 hbt
      have h41 : mI M1 4 4 = i32 g := by rw [g1.i (by omega)]; exact h4
      obtain ⟨M2, e2, g2, cs2⟩ := X6_findTwin (T := shT1 tb n T f e) hR1 cs1 hT1 (by show f < T.nf; omega) hg hgf h41 htw
      have gs2 : Chg (shC q) M1 M2 := g2.mono (fun a j h => by unfold shC; omega)
      have hR2 := hR1.chg gs2
      have hL2 := hR2.1
      have m2 : ∀ j, mI M2 2 j = mI M 2 j := fun j => by rw [g2.i (by omega), g1.i (by omega)]
      have m4 : ∀ j, mI M2 4 j = mI M 4 j := fun j => by rw [g2.i (by omega), g1.i (by omega)]
      have k41 : mK M1 4 = 7 := by simp only [hL1.o]
      have k42 : mK M2 4 = 7 := by simp only [hL2.o]
      have st : f_X6_readName 4 (i32 f) M = (bnd (f_X6_findTwin 4 (i32 f) M1) fun r13 M12 => if r13 = 0 then some ((3 : Int32), M12) else if mK M12 4 = 7 then if mK M12 (mR M12 4 1) = 6 then bnd (f_X5_fieldNamed (mR M12 4 1) (mI M12 4 4) (mR M12 4 1) (i32 f) M12) fun r18 M17 => if i32 (f : Int) ≤ r18 then some ((0 : Int32), M17) else some ((4 : Int32), M17) else none else none) := by
        unfold f_X6_readName
        rw [if_pos k4, r40, if_pos k2, et, if_pos (by rw [c1]; rfl), bx ew, if_pos (by simp (disch := omega) only [↓reduceIte, add_i0, cast_add1, cast_sub1, toNat120, i32_lit, i32_neg, i32_add, i32_sub, i32_mul, i32_nat, i32_le, i32_lt, i32_eq, inB_i, Int.toNat_natCast, mI_sI_eq, mI_sI_ne, mR_sR_eq, mR_sR_ne, mI_sR, mR_sI, mK_sI, mN_sI, mn_sI, mJ_sI, mK_sR, mN_sR, mn_sR, mJ_sR, mI_wI, mR_wI, mK_wI, mN_wI, mn_wI, mJ_wI, ↓bnd_of, ↓bndX_r, ↓bndX_l, ↓ap_nr, bnd_of, bndX_r, bndX_l, if_true, if_false, ite_true, ite_false, not_true_eq_false, not_false_eq_true, Nat.reduceAdd, Nat.reduceMul, Nat.reduceEqDiff, Int.reduceToNat, Int.reduceNeg, Ilt_t, Ilt_f, Ile_t, Ile_f, Ieq_t, Ieq_f, Nlt_t, Nlt_f, Nle_t, Nle_f, Neq_t, Neq_f, or_true, true_or, or_false, false_or, and_true, true_and, and_false, false_and, ne_eq, or_self, and_self, decide_true, decide_false, Bool.false_eq_true]), if_pos k4, r41, if_pos kq, r40, bx e1, if_pos k41]
      rw [st, bx e2]
      have kd1 : (shT1 tb n T f e).kd f = T.kd f := rfl
      rw [kd1]
      by_cases c3 : vw = true ∧ ¬ seeO S (shT1 tb n T f e) g (twV vw S (shT1 tb n T f e) g f) (T.kd f)
      · simp only [if_pos c3]
        refine ⟨3, M2, ?_, gs1.tr gs2, m2, m4, rfl⟩
        rw [if_pos (by rfl)]
        rfl
      · simp only [if_neg c3]
        have nz : ¬ (i32 1 = i32 0) := i32_ne (by omega) (by omega) (by omega) (by omega) (by omega)
        have hsb : SB S vw := fun w => (hv w).2.2.1
        have tv := twV_b (T := shT1 tb n T f e) (g := g) hsb (f := f) (by omega)
        have hT2 : (shT2 vw S tb n T g f e).ok := twi_ok hT1 tv.1 tv.2.1
        have hq2 := hR2.2.1
        have r412 : mR M2 4 1 = q := hR2.2.2.2.2.2.1
        have kq2 : mK M2 q = 6 := by simp only [hq2.o]
        have h42 : mI M2 4 4 = i32 g := by rw [m4]; exact h4
        have en := X5_fieldNamed (S := shT2 vw S tb n T g f e) (T := shT2 vw S tb n T g f e) (f := f) (a := g) (by omega) (by omega) hq2 hq2 cs2 cs2 hT2 hT2 (by show f < T.nf; omega)
        have nf2 : (shT2 vw S tb n T g f e).nf = f + 1 := hf.symm
        have gr2 : (shT2 vw S tb n T g f e).gr (0 + f) = g := by rw [Nat.zero_add]; exact hgr
        have sm2 : smN (shT2 vw S tb n T g f e) (shT2 vw S tb n T g f e) (0 + f) f = true := by rw [Nat.zero_add]; exact smN_rf _ _
        rw [nf2, fnF_snoc, if_pos (show (shT2 vw S tb n T g f e).gr (0 + f) = g ∧ smN (shT2 vw S tb n T g f e) (shT2 vw S tb n T g f e) (0 + f) f = true from ⟨gr2, sm2⟩), Nat.zero_add] at en
        have fb := fnF_b (shT2 vw S tb n T g f e) (shT2 vw S tb n T g f e) g f f 0
        rw [if_neg (by exact nz), if_pos k42, r412, if_pos kq2, h42, bx en]
        by_cases c4 : fnF (shT2 vw S tb n T g f e) (shT2 vw S tb n T g f e) g f f 0 ≠ -1
        · simp only [if_pos c4]
          have fb2 : 0 ≤ fnF (shT2 vw S tb n T g f e) (shT2 vw S tb n T g f e) g f f 0 ∧ fnF (shT2 vw S tb n T g f e) (shT2 vw S tb n T g f e) g f f 0 < f := by
            rcases fb with h | h
            · exact absurd h c4
            · omega
          refine ⟨4, M2, ?_, gs1.tr gs2, m2, m4, rfl⟩
          rw [if_neg (by simp (disch := omega) only [↓reduceIte, add_i0, cast_add1, cast_sub1, toNat120, i32_lit, i32_neg, i32_add, i32_sub, i32_mul, i32_nat, i32_le, i32_lt, i32_eq, inB_i, Int.toNat_natCast, mI_sI_eq, mI_sI_ne, mR_sR_eq, mR_sR_ne, mI_sR, mR_sI, mK_sI, mN_sI, mn_sI, mJ_sI, mK_sR, mN_sR, mn_sR, mJ_sR, mI_wI, mR_wI, mK_wI, mN_wI, mn_wI, mJ_wI, ↓bnd_of, ↓bndX_r, ↓bndX_l, ↓ap_nr, bnd_of, bndX_r, bndX_l, if_true, if_false, ite_true, ite_false, not_true_eq_false, not_false_eq_true, Nat.reduceAdd, Nat.reduceMul, Nat.reduceEqDiff, Int.reduceToNat, Int.reduceNeg, Ilt_t, Ilt_f, Ile_t, Ile_f, Ieq_t, Ieq_f, Nlt_t, Nlt_f, Nle_t, Nle_f, Neq_t, Neq_f, or_true, true_or, or_false, false_or, and_true, true_and, and_false, false_and, ne_eq, or_self, and_self, decide_true, decide_false, Bool.false_eq_true])]
          rfl
        · simp only [if_neg c4]
          refine ⟨0, M2, ?_, gs1.tr gs2, m2, m4, rfl, cs2, hT2⟩
          rw [if_pos (by simp (disch := omega) only [↓reduceIte, add_i0, cast_add1, cast_sub1, toNat120, i32_lit, i32_neg, i32_add, i32_sub, i32_mul, i32_nat, i32_le, i32_lt, i32_eq, inB_i, Int.toNat_natCast, mI_sI_eq, mI_sI_ne, mR_sR_eq, mR_sR_ne, mI_sR, mR_sI, mK_sI, mN_sI, mn_sI, mJ_sI, mK_sR, mN_sR, mn_sR, mJ_sR, mI_wI, mR_wI, mK_wI, mN_wI, mn_wI, mJ_wI, ↓bnd_of, ↓bndX_r, ↓bndX_l, ↓ap_nr, bnd_of, bndX_r, bndX_l, if_true, if_false, ite_true, ite_false, not_true_eq_false, not_false_eq_true, Nat.reduceAdd, Nat.reduceMul, Nat.reduceEqDiff, Int.reduceToNat, Int.reduceNeg, Ilt_t, Ilt_f, Ile_t, Ile_f, Ieq_t, Ieq_f, Nlt_t, Nlt_f, Nle_t, Nle_f, Neq_t, Neq_f, or_true, true_or, or_false, false_or, and_true, true_and, and_false, false_and, ne_eq, or_self, and_self, decide_true, decide_false, Bool.false_eq_true])]
          rfl
    · simp only [if_neg c2]
      refine ⟨2, M, ?_, Chg.rf _ M, fun j => rfl, fun j => rfl, rfl⟩
      unfold f_X6_readName
      rw [if_pos k4, r40, if_pos k2, et, if_pos (by rw [c1]; rfl), bx ew, if_neg (by simp (disch := omega) only [↓reduceIte, add_i0, cast_add1, cast_sub1, toNat120, i32_lit, i32_neg, i32_add, i32_sub, i32_mul, i32_nat, i32_le, i32_lt, i32_eq, inB_i, Int.toNat_natCast, mI_sI_eq, mI_sI_ne, mR_sR_eq, mR_sR_ne, mI_sR, mR_sI, mK_sI, mN_sI, mn_sI, mJ_sI, mK_sR, mN_sR, mn_sR, mJ_sR, mI_wI, mR_wI, mK_wI, mN_wI, mn_wI, mJ_wI, ↓bnd_of, ↓bndX_r, ↓bndX_l, ↓ap_nr, bnd_of, bndX_r, bndX_l, if_true, if_false, ite_true, ite_false, not_true_eq_false, not_false_eq_true, Nat.reduceAdd, Nat.reduceMul, Nat.reduceEqDiff, Int.reduceToNat, Int.reduceNeg, Ilt_t, Ilt_f, Ile_t, Ile_f, Ieq_t, Ieq_f, Nlt_t, Nlt_f, Nle_t, Nle_f, Neq_t, Neq_f, or_true, true_or, or_false, false_or, and_true, true_and, and_false, false_and, ne_eq, or_self, and_self, decide_true, decide_false, Bool.false_eq_true])]
      rfl
  · simp only [if_neg c1]
    have n1 : ¬ (i32 (tkK tb n e) = i32 1) := i32_ne (by omega) (by omega) (by omega) (by omega) c1
    refine ⟨1, M, ?_, Chg.rf _ M, fun j => rfl, fun j => rfl, rfl⟩
    unfold f_X6_readName
    rw [if_pos k4, r40, if_pos k2, et, if_neg (by exact n1)]
    rfl
theorem X6_readField (hR : SHL M q s S vw tb n) (hC : CSh M q T) (hB : BI S vw T g d dp) (h4 : mI M 4 4 = i32 g) (h5 : mI M 4 5 = i32 d) {e : Nat} (he : e ≤ n) (hk : CTk M tb n e) : ∃ x M', f_X6_readField 4 M = some (i32 x, M') ∧ Chg (shC q) M M' ∧ match shRd vw S tb n T g d e with
    | .inl y => x = y.1 ∧ mI M' 2 4 = i32 y.2
    | .inr r => x = 0 ∧ CSh M' q r.2.1 ∧ mI M' 4 4 = i32 r.2.2.1 ∧ mI M' 4 5 = i32 r.2.2.2 ∧ ∃ e2, e2 ≤ n ∧ CTk M' tb n e2 ∧ r.1 = tkE tb n e2 := by
  obtain ⟨hL, hq, q1, q2, r40, r41, r42, h43, hTX, hv⟩ := id hR
  have hbt := hTX.2.2.2
  have kb := kwF_b tb n e
  have gb := hB.g16
  have hT := hB.1
  have hnf := hT.1
  have d3 : d ≤ 3 := hB.2.2.2.2.2.2.2.2.2.1
  have k4 : mK M 4 = 7 := by simp only [hL.o]
  have kq : mK M q = 6 := by simp only [hq.o]
  have ek := X6_kindTold hL r40 hTX hk he
  unfold shRd
  by_cases c1 : kwF tb n e = -1
  · rw [if_pos c1]
    refine ⟨1, M, ?_, Chg.rf _ M, rfl, hk.2.1⟩
    unfold f_X6_readField
    rw [if_pos k4, bx ek, if_pos (by rw [c1]; rfl)]
    rfl
  · rw [if_neg c1]
    have nk : ¬ (i32 (kwF tb n e) = i32 (-1)) := i32_ne (by omega) (by omega) (by omega) (by omega) c1
    by_cases c2 : 16 ≤ T.nf
    · rw [if_pos c2]
      refine ⟨2, M, ?_, Chg.rf _ M, rfl, hk.2.1⟩
      unfold f_X6_readField
      rw [if_pos k4, bx ek, if_neg (by exact nk), if_pos k4, r41, if_pos kq, hC.1, if_neg (by simp (disch := omega) only [↓reduceIte, add_i0, cast_add1, cast_sub1, toNat120, i32_lit, i32_neg, i32_add, i32_sub, i32_mul, i32_nat, i32_le, i32_lt, i32_eq, inB_i, Int.toNat_natCast, mI_sI_eq, mI_sI_ne, mR_sR_eq, mR_sR_ne, mI_sR, mR_sI, mK_sI, mN_sI, mn_sI, mJ_sI, mK_sR, mN_sR, mn_sR, mJ_sR, mI_wI, mR_wI, mK_wI, mN_wI, mn_wI, mJ_wI, ↓bnd_of, ↓bndX_r, ↓bndX_l, ↓ap_nr, bnd_of, bndX_r, bndX_l, if_true, if_false, ite_true, ite_false, not_true_eq_false, not_false_eq_true, Nat.reduceAdd, Nat.reduceMul, Nat.reduceEqDiff, Int.reduceToNat, Int.reduceNeg, Ilt_t, Ilt_f, Ile_t, Ile_f, Ieq_t, Ieq_f, Nlt_t, Nlt_f, Nle_t, Nle_f, Neq_t, Neq_f, or_true, true_or, or_false, false_or, and_true, true_and, and_false, false_and, ne_eq, or_self, and_self, decide_true, decide_false, Bool.false_eq_true])]
      rfl
    · rw [if_neg c2]
      have go := tk_go hbt he (by have := kb.2.2 c1; omega)
      obtain ⟨M1, e1, g1, cs1⟩ := X5_openField (q := q) hq hC hT (by omega) (w := kwF tb n e) (g := g) (by omega) (by omega) gb.1 gb.2
      have gs1 : Chg (shC q) M M1 := g1.mono (fun a j h => Or.inr (Or.inr h))
      have hR1 := hR.chg gs1
      have hk1 : CTk M1 tb n e := hk.cg (fun i => g1.i (by omega))
      have m41 : ∀ j, mI M1 4 j = mI M 4 j := fun j => g1.i (by omega)
      obtain ⟨M2, e2, g2, hR2, cs2, hk2, m42⟩ := adv_sh hR1 cs1 he hk1
      have hT0 := opn_ok hB (by omega) (w := kwF tb n e) (by omega) (by omega)
      have h42 : mI M2 4 4 = i32 g := by rw [m42, m41]; exact h4
      obtain ⟨x3, M3, e3, g3, m23, m43, r3⟩ := X6_readName (T := T.opn (kwF tb n e) g) (f := T.nf) (g := g) hR2 cs2 hT0 rfl gb.1 gb.2 (upf_eq _ _ _) h42 (upf_eq _ _ _) (upf_eq _ _ _) go.2.1 hk2
      have hR3 := hR2.chg g3
      have hk3 : CTk M3 tb n (tkE tb n e) := hk2.cg m23
      have k41 : mK M1 4 = 7 := by simp only [hR1.1.o]
      have k21 : mK M1 2 = 10 := by simp only [hR1.1.o]
      have r401 : mR M1 4 0 = 2 := hR1.2.2.2.2.1
      have k42 : mK M2 4 = 7 := by simp only [hR2.1.o]
      have k43 : mK M3 4 = 7 := by simp only [hR3.1.o]
      have k23 : mK M3 2 = 10 := by simp only [hR3.1.o]
      have r403 : mR M3 4 0 = 2 := hR3.2.2.2.2.1
      have st : f_X6_readField 4 M = (if i32 x3 = 0 then (bnd (f_X9_advance 2 M3) fun _ M20 => if mK M20 4 = 7 then (bnd (f_X6_readLeafOrGroup 4 (i32 T.nf) M20) fun r24 M23 => some (r24, M23)) else none) else some (i32 x3, M3)) := by
        unfold f_X6_readField
        rw [if_pos k4, bx ek, if_neg (by exact nk), if_pos k4, r41, if_pos kq, hC.1, if_pos (by simp (disch := omega) only [↓reduceIte, add_i0, cast_add1, cast_sub1, toNat120, i32_lit, i32_neg, i32_add, i32_sub, i32_mul, i32_nat, i32_le, i32_lt, i32_eq, inB_i, Int.toNat_natCast, mI_sI_eq, mI_sI_ne, mR_sR_eq, mR_sR_ne, mI_sR, mR_sI, mK_sI, mN_sI, mn_sI, mJ_sI, mK_sR, mN_sR, mn_sR, mJ_sR, mI_wI, mR_wI, mK_wI, mN_wI, mn_wI, mJ_wI, ↓bnd_of, ↓bndX_r, ↓bndX_l, ↓ap_nr, bnd_of, bndX_r, bndX_l, if_true, if_false, ite_true, ite_false, not_true_eq_false, not_false_eq_true, Nat.reduceAdd, Nat.reduceMul, Nat.reduceEqDiff, Int.reduceToNat, Int.reduceNeg, Ilt_t, Ilt_f, Ile_t, Ile_f, Ieq_t, Ieq_f, Nlt_t, Nlt_f, Nle_t, Nle_f, Neq_t, Neq_f, or_true, true_or, or_false, false_or, and_true, true_and, and_false, false_and, ne_eq, or_self, and_self, decide_true, decide_false, Bool.false_eq_true]), h4, bx e1, if_pos k41, r401, if_pos k21, bx e2, if_pos k42, bx e3, if_pos k43, r403, if_pos k23]
      have gs3 : Chg (shC q) M M3 := gs1.tr (g2.tr g3)
      rw [st]
      unfold shN
      have kd0 : (T.opn (kwF tb n e) g).kd T.nf = kwF tb n e := upf_eq _ _ _
      have stop : ∀ x : Int, 1 ≤ x → x ≤ 4 → x3 = x → ∃ x M', (if i32 x3 = 0 then (bnd (f_X9_advance 2 M3) fun _ M20 => if mK M20 4 = 7 then (bnd (f_X6_readLeafOrGroup 4 (i32 T.nf) M20) fun r24 M23 => some (r24, M23)) else none) else some (i32 x3, M3)) = some (i32 x, M') ∧ Chg (shC q) M M' ∧ x = x3 ∧ mI M' 2 4 = i32 (tkB tb n (tkE tb n e)) := fun x x1 x4 hx => by
        have nx : ¬ (i32 x3 = i32 0) := i32_ne (by omega) (by omega) (by omega) (by omega) (by omega)
        exact ⟨x3, M3, by rw [if_neg (by exact nx)], gs3, rfl, hk3.2.1⟩
      by_cases c3 : tkK tb n (tkE tb n e) = 1
      · simp only [if_pos c3] at r3 ⊢
        by_cases c4 : tkE tb n (tkE tb n e) - tkB tb n (tkE tb n e) ≤ 4
        · simp only [if_pos c4] at r3 ⊢
          by_cases c5 : vw = true ∧ ¬ seeO S (shT1 tb n (T.opn (kwF tb n e) g) T.nf (tkE tb n e)) g (twV vw S (shT1 tb n (T.opn (kwF tb n e) g) T.nf (tkE tb n e)) g T.nf) ((T.opn (kwF tb n e) g).kd T.nf)
          · simp only [if_pos c5] at r3 ⊢
            obtain ⟨x, M', p1, p2, p3, p4⟩ := stop 3 (by omega) (by omega) r3
            exact ⟨x, M', p1, p2, by rw [p3]; exact r3, p4⟩
          · simp only [if_neg c5] at r3 ⊢
            by_cases c6 : fnF (shT2 vw S tb n (T.opn (kwF tb n e) g) g T.nf (tkE tb n e)) (shT2 vw S tb n (T.opn (kwF tb n e) g) g T.nf (tkE tb n e)) g T.nf T.nf 0 ≠ -1
            · simp only [if_pos c6] at r3 ⊢
              obtain ⟨x, M', p1, p2, p3, p4⟩ := stop 4 (by omega) (by omega) r3
              exact ⟨x, M', p1, p2, by rw [p3]; exact r3, p4⟩
            · simp only [if_neg c6] at r3 ⊢
              obtain ⟨rx, cs3, hT2⟩ := r3
              subst rx
              have go1 := tk_go hbt go.2.1 (by omega)
              obtain ⟨M4, e4, g4, hR4, cs4, hk4, m44⟩ := adv_sh hR3 cs3 go.2.1 hk3
              have k44 : mK M4 4 = 7 := by simp only [hR4.1.o]
              have h44 : mI M4 4 4 = i32 g := by rw [m44, m43]; exact h42
              have h45 : mI M4 4 5 = i32 d := by rw [m44, m43, m42, m41]; exact h5
              have tv := twV_b (T := shT1 tb n (T.opn (kwF tb n e) g) T.nf (tkE tb n e)) (g := g) (fun w => (hv w).2.2.1) (f := T.nf) (by omega)
              have tw2 : (shT2 vw S tb n (T.opn (kwF tb n e) g) g T.nf (tkE tb n e)).tw T.nf = twV vw S (shT1 tb n (T.opn (kwF tb n e) g) T.nf (tkE tb n e)) g T.nf := upf_eq _ _ _
              obtain ⟨x5, M5, e5, g5, m25, r5⟩ := X6_leafGroup (T := shT2 vw S tb n (T.opn (kwF tb n e) g) g T.nf (tkE tb n e)) (f := T.nf) (g := g) (d := d) hR4 cs4 hT2 (by show T.nf < T.nf + 1; omega) d3 h44 h45 (fun w => by
                rw [tw2]
                rcases tv.2.2 w with u | u
                · exact u
                · rw [u]; omega) hk4
              refine ⟨x5, M5, ?_, gs3.tr (g4.tr g5), ?_⟩
              · rw [if_pos (by rfl), bx e4, if_pos k44, bx e5]
              · generalize shG vw S tb n (shT2 vw S tb n (T.opn (kwF tb n e) g) g T.nf (tkE tb n e)) g d T.nf (tkE tb n (tkE tb n e)) = y at r5
                match y, r5 with
                | .inl y, r5 => exact ⟨r5.1, by rw [m25, r5.2]; exact hk4.2.1⟩
                | .inr r, r5 => exact ⟨r5.1, r5.2.2.1, r5.2.2.2.1, r5.2.2.2.2, tkE tb n (tkE tb n e), go1.2.1, hk4.cg m25, r5.2.1⟩
        · simp only [if_neg c4] at r3 ⊢
          obtain ⟨x, M', p1, p2, p3, p4⟩ := stop 2 (by omega) (by omega) r3
          exact ⟨x, M', p1, p2, by rw [p3]; exact r3, p4⟩
      · simp only [if_neg c3] at r3 ⊢
        obtain ⟨x, M', p1, p2, p3, p4⟩ := stop 1 (by omega) (by omega) r3
        exact ⟨x, M', p1, p2, by rw [p3]; exact r3, p4⟩
theorem X6_read41 (hn : n ≤ 700) (hS : SB S vw) : ∀ (k i m e : Nat) (T : Sc) (g : Int) (d : Nat) (dp : Nat → Nat) (M : Mem), n - e < k → n - e < m → i ≤ e → SHL M q s S vw tb n → CSh M q T → BI S vw T g d dp → mI M 4 4 = i32 g → mI M 4 5 = i32 d → CTk M tb n e → e ≤ n → ∃ x M', f_X6_read_41 m 4 (i32 i) M = some (i32 x, M') ∧ Chg (shC q) M M' ∧ match shF vw S tb n k e T g d with
    | .inl y => x = y.1 ∧ mI M' 2 4 = i32 y.2
    | .inr T' => x = 0 ∧ CSh M' q T' := by
  intro k
  induction k with
  | zero => intro i m e T g d dp M hk; omega
  | succ k ih =>
    intro i m e T g d dp M hke hme hie hR hC hB h4 h5 hk he
    obtain ⟨m, rfl⟩ : ∃ q, m = q + 1 := ⟨m - 1, by omega⟩
    obtain ⟨hL, hq, q1, q2, r40, r41, r42, h43, hTX, hv⟩ := id hR
    have hbt := hTX.2.2.2
    have tkb := tkK_b tb hbt n e
    have gb := hB.g16
    have hT := hB.1
    have hnf := hT.1
    have k4 : mK M 4 = 7 := by simp only [hL.o]
    have k2 : mK M 2 = 10 := by simp only [hL.o]
    have kq : mK M q = 6 := by simp only [hq.o]
    have et : mI M 2 3 = i32 (tkK tb n e) := hk.1
    have lt : ¬ ((700 : Int32) < i32 (i : Int)) := by simp (disch := omega) only [↓reduceIte, add_i0, cast_add1, cast_sub1, toNat120, i32_lit, i32_neg, i32_add, i32_sub, i32_mul, i32_nat, i32_le, i32_lt, i32_eq, inB_i, Int.toNat_natCast, mI_sI_eq, mI_sI_ne, mR_sR_eq, mR_sR_ne, mI_sR, mR_sI, mK_sI, mN_sI, mn_sI, mJ_sI, mK_sR, mN_sR, mn_sR, mJ_sR, mI_wI, mR_wI, mK_wI, mN_wI, mn_wI, mJ_wI, ↓bnd_of, ↓bndX_r, ↓bndX_l, ↓ap_nr, bnd_of, bndX_r, bndX_l, if_true, if_false, ite_true, ite_false, not_true_eq_false, not_false_eq_true, Nat.reduceAdd, Nat.reduceMul, Nat.reduceEqDiff, Int.reduceToNat, Int.reduceNeg, Ilt_t, Ilt_f, Ile_t, Ile_f, Ieq_t, Ieq_f, Nlt_t, Nlt_f, Nle_t, Nle_f, Neq_t, Neq_f, or_true, true_or, or_false, false_or, and_true, true_and, and_false, false_and, ne_eq, or_self, and_self, decide_true, decide_false, Bool.false_eq_true]
    unfold shF
    by_cases c0 : tkK tb n e = 0
    · rw [if_pos c0]
      by_cases cg : g = -1
      · by_cases cn : 0 < T.nf
        · rw [if_pos ⟨cg, cn⟩]
          refine ⟨0, M, ?_, Chg.rf _ M, rfl, hC⟩
          unfold f_X6_read_41
          rw [if_neg lt, if_pos k4, r40, if_pos k2, et, if_pos (by rw [c0]; rfl), h4, if_pos (by rw [cg]; rfl), r41, if_pos kq, hC.1, if_neg (by simp (disch := omega) only [↓reduceIte, add_i0, cast_add1, cast_sub1, toNat120, i32_lit, i32_neg, i32_add, i32_sub, i32_mul, i32_nat, i32_le, i32_lt, i32_eq, inB_i, Int.toNat_natCast, mI_sI_eq, mI_sI_ne, mR_sR_eq, mR_sR_ne, mI_sR, mR_sI, mK_sI, mN_sI, mn_sI, mJ_sI, mK_sR, mN_sR, mn_sR, mJ_sR, mI_wI, mR_wI, mK_wI, mN_wI, mn_wI, mJ_wI, ↓bnd_of, ↓bndX_r, ↓bndX_l, ↓ap_nr, bnd_of, bndX_r, bndX_l, if_true, if_false, ite_true, ite_false, not_true_eq_false, not_false_eq_true, Nat.reduceAdd, Nat.reduceMul, Nat.reduceEqDiff, Int.reduceToNat, Int.reduceNeg, Ilt_t, Ilt_f, Ile_t, Ile_f, Ieq_t, Ieq_f, Nlt_t, Nlt_f, Nle_t, Nle_f, Neq_t, Neq_f, or_true, true_or, or_false, false_or, and_true, true_and, and_false, false_and, ne_eq, or_self, and_self, decide_true, decide_false, Bool.false_eq_true])]
          rfl
        · rw [if_neg (fun u => cn u.2)]
          refine ⟨1, M, ?_, Chg.rf _ M, rfl, hk.2.1⟩
          unfold f_X6_read_41
          rw [if_neg lt, if_pos k4, r40, if_pos k2, et, if_pos (by rw [c0]; rfl), h4, if_pos (by rw [cg]; rfl), r41, if_pos kq, hC.1, if_pos (by simp (disch := omega) only [↓reduceIte, add_i0, cast_add1, cast_sub1, toNat120, i32_lit, i32_neg, i32_add, i32_sub, i32_mul, i32_nat, i32_le, i32_lt, i32_eq, inB_i, Int.toNat_natCast, mI_sI_eq, mI_sI_ne, mR_sR_eq, mR_sR_ne, mI_sR, mR_sI, mK_sI, mN_sI, mn_sI, mJ_sI, mK_sR, mN_sR, mn_sR, mJ_sR, mI_wI, mR_wI, mK_wI, mN_wI, mn_wI, mJ_wI, ↓bnd_of, ↓bndX_r, ↓bndX_l, ↓ap_nr, bnd_of, bndX_r, bndX_l, if_true, if_false, ite_true, ite_false, not_true_eq_false, not_false_eq_true, Nat.reduceAdd, Nat.reduceMul, Nat.reduceEqDiff, Int.reduceToNat, Int.reduceNeg, Ilt_t, Ilt_f, Ile_t, Ile_f, Ieq_t, Ieq_f, Nlt_t, Nlt_f, Nle_t, Nle_f, Neq_t, Neq_f, or_true, true_or, or_false, false_or, and_true, true_and, and_false, false_and, ne_eq, or_self, and_self, decide_true, decide_false, Bool.false_eq_true])]
          rfl
      · have ng : ¬ (i32 g = i32 (-1)) := i32_ne (by omega) (by omega) (by omega) (by omega) cg
        rw [if_neg (fun u => cg u.1)]
        refine ⟨1, M, ?_, Chg.rf _ M, rfl, hk.2.1⟩
        unfold f_X6_read_41
        rw [if_neg lt, if_pos k4, r40, if_pos k2, et, if_pos (by rw [c0]; rfl), h4, if_neg (by exact ng)]
        rfl
    · rw [if_neg c0]
      have n0 : ¬ (i32 (tkK tb n e) = i32 0) := i32_ne (by omega) (by omega) (by omega) (by omega) c0
      have go := tk_go hbt he c0
      by_cases c1 : tkK tb n e = 125
      · rw [if_pos c1]
        have st : f_X6_read_41 (m + 1) 4 (i32 i) M = (bnd (f_X6_readClose 4 M) fun r9 M8 => f_X6_read_106 (f_X6_read_41 m) 4 (i32 i) r9 M8) := by
          conv => lhs; unfold f_X6_read_41
          rw [if_neg lt, if_pos k4, r40, if_pos k2, et, if_neg (by exact n0), if_pos (by rw [c1]; rfl)]
        rw [st]
        have nz1 : ¬ (i32 1 = i32 0) := i32_ne (by omega) (by omega) (by omega) (by omega) (by omega)
        by_cases c : g = -1 ∨ g + 1 = T.nf
        · rw [if_pos c]
          have ec : f_X6_readClose 4 M = some (i32 1, M) := by
            unfold f_X6_readClose
            by_cases cg : g = -1
            · rw [if_pos k4, h4, if_pos (by rw [cg]; rfl)]
              rfl
            · obtain ⟨p, hp⟩ : ∃ p : Nat, g = p := ⟨g.toNat, by omega⟩
              have ng : ¬ (i32 g = i32 (-1)) := i32_ne (by omega) (by omega) (by omega) (by omega) cg
              have r9 : mR M q 9 = q + 8 := by simp only [hq.o]
              have k8 : mK M (q + 8) = 21 := by simp only [hq.o]
              have n8 : mN M (q + 8) = 16 := by simp only [hq.o]
              have inp : inB (i32 (p : Int)) 16 = true := by simp (disch := omega) only [↓reduceIte, add_i0, cast_add1, cast_sub1, toNat120, i32_lit, i32_neg, i32_add, i32_sub, i32_mul, i32_nat, i32_le, i32_lt, i32_eq, inB_i, Int.toNat_natCast, mI_sI_eq, mI_sI_ne, mR_sR_eq, mR_sR_ne, mI_sR, mR_sI, mK_sI, mN_sI, mn_sI, mJ_sI, mK_sR, mN_sR, mn_sR, mJ_sR, mI_wI, mR_wI, mK_wI, mN_wI, mn_wI, mJ_wI, ↓bnd_of, ↓bndX_r, ↓bndX_l, ↓ap_nr, bnd_of, bndX_r, bndX_l, if_true, if_false, ite_true, ite_false, not_true_eq_false, not_false_eq_true, Nat.reduceAdd, Nat.reduceMul, Nat.reduceEqDiff, Int.reduceToNat, Int.reduceNeg, Ilt_t, Ilt_f, Ile_t, Ile_f, Ieq_t, Ieq_f, Nlt_t, Nlt_f, Nle_t, Nle_f, Neq_t, Neq_f, or_true, true_or, or_false, false_or, and_true, true_and, and_false, false_and, ne_eq, or_self, and_self, decide_true, decide_false, Bool.false_eq_true]
              have ek := hC.2.2.2.2.2.2.2.2.2.1 p (by omega)
              have e0 := (hB.kids hp).mpr (by omega)
              rw [if_pos k4, h4, if_neg (by exact ng), r41, if_pos kq, r9, if_pos k8, n8, hp, if_pos inp, nat_i (by omega), ek, e0, if_pos (by rfl)]
              rfl
          refine ⟨1, M, ?_, Chg.rf _ M, rfl, hk.2.1⟩
          rw [bx ec]
          unfold f_X6_read_106
          rw [if_neg (by exact nz1)]
        · rw [if_neg c]
          obtain ⟨p, hp⟩ : ∃ p : Nat, g = p := ⟨g.toNat, by omega⟩
          have ng : ¬ (i32 g = i32 (-1)) := i32_ne (by omega) (by omega) (by omega) (by omega) (by omega)
          have r9 : mR M q 9 = q + 8 := by simp only [hq.o]
          have k8 : mK M (q + 8) = 21 := by simp only [hq.o]
          have n8 : mN M (q + 8) = 16 := by simp only [hq.o]
          have r3 : mR M q 3 = q + 2 := by simp only [hq.o]
          have kq2 : mK M (q + 2) = 21 := by simp only [hq.o]
          have nq2 : mN M (q + 2) = 16 := by simp only [hq.o]
          have inp : inB (i32 (p : Int)) 16 = true := by simp (disch := omega) only [↓reduceIte, add_i0, cast_add1, cast_sub1, toNat120, i32_lit, i32_neg, i32_add, i32_sub, i32_mul, i32_nat, i32_le, i32_lt, i32_eq, inB_i, Int.toNat_natCast, mI_sI_eq, mI_sI_ne, mR_sR_eq, mR_sR_ne, mI_sR, mR_sI, mK_sI, mN_sI, mn_sI, mJ_sI, mK_sR, mN_sR, mn_sR, mJ_sR, mI_wI, mR_wI, mK_wI, mN_wI, mn_wI, mJ_wI, ↓bnd_of, ↓bndX_r, ↓bndX_l, ↓ap_nr, bnd_of, bndX_r, bndX_l, if_true, if_false, ite_true, ite_false, not_true_eq_false, not_false_eq_true, Nat.reduceAdd, Nat.reduceMul, Nat.reduceEqDiff, Int.reduceToNat, Int.reduceNeg, Ilt_t, Ilt_f, Ile_t, Ile_f, Ieq_t, Ieq_f, Nlt_t, Nlt_f, Nle_t, Nle_f, Neq_t, Neq_f, or_true, true_or, or_false, false_or, and_true, true_and, and_false, false_and, ne_eq, or_self, and_self, decide_true, decide_false, Bool.false_eq_true]
          have ek := hC.2.2.2.2.2.2.2.2.2.1 p (by omega)
          have e0 : ¬ (T.kids p = i32 0) := fun u => by have := (hB.kids hp).mp u; omega
          have eg := hC.2.2.2.1 p (by omega)
          have hd1 : 1 ≤ d := by
            rcases hB.2.2.2.2.2.2.2.2.1 with u | ⟨p', u1, u2, u3, u4, u5⟩
            · omega
            · omega
          have e5 : mI (sI M 4 4 (i32 (T.gr p))) 4 5 - (1 : Int32) = i32 ((d - 1 : Nat) : Int) := by
            rw [mI_sI_ne (by omega), h5, show (1 : Int32) = i32 1 from rfl, i32_sub]
            congr 1
            omega
          obtain ⟨M1, em⟩ : ∃ M1, sI (sI M 4 4 (i32 (T.gr p))) 4 5 (i32 ((d - 1 : Nat) : Int)) = M1 := ⟨_, rfl⟩
          have g1 : Chg (fun a j => a = 4 ∧ 4 ≤ j) M M1 := by
            rw [← em]
            exact ((Chg.rf _ M).sI ⟨rfl, by omega⟩).sI ⟨rfl, by omega⟩
          have gs1 : Chg (shC q) M M1 := g1.mono (fun a j h => Or.inr (Or.inl h))
          have ec : f_X6_readClose 4 M = some (i32 0, M1) := by
            unfold f_X6_readClose
            rw [if_pos k4, h4, if_neg (by exact ng), r41, if_pos kq, r9, if_pos k8, n8, hp, if_pos inp, nat_i (by omega), ek, if_neg (by exact e0), r3, if_pos kq2, nq2, if_pos inp, eg, ap_of, if_pos (by exact k4), e5, ap_of, em]
            rfl
          have hR1 := hR.chg gs1
          have hC1 : CSh M1 q T := hC.away g1 (fun a j x => by omega)
          have hk1 : CTk M1 tb n e := hk.cg (fun i => g1.i (by omega))
          obtain ⟨M2, e2, g2, hR2, cs2, hk2, m42⟩ := adv_sh hR1 hC1 he hk1
          have k41 : mK M1 4 = 7 := by simp only [hR1.1.o]
          have k21 : mK M1 2 = 10 := by simp only [hR1.1.o]
          have r401 : mR M1 4 0 = 2 := hR1.2.2.2.2.1
          rw [hp, Int.toNat_natCast]
          obtain ⟨x3, M3, e3, g3, r3'⟩ := ih (i + 1) m (tkE tb n e) T (T.gr p) (d - 1) dp M2 (by omega) (by omega) (by omega) hR2 cs2 (hB.close hp (by omega)) (by rw [m42, ← em, mI_sI_ne (by omega), mI_sI_eq]) (by rw [m42, ← em, mI_sI_eq]) hk2 go.2.1
          refine ⟨x3, M3, ?_, gs1.tr (g2.tr g3), r3'⟩
          rw [bx ec]
          unfold f_X6_read_106
          rw [if_pos (by rfl), if_pos k41, r401, if_pos k21, bx e2, k_add1, e3]
      · rw [if_neg c1]
        have n125 : ¬ (i32 (tkK tb n e) = i32 125) := i32_ne (by omega) (by omega) (by omega) (by omega) c1
        obtain ⟨x1, M1, e1, g1, r1⟩ := X6_readField hR hC hB h4 h5 he hk
        have st : f_X6_read_41 (m + 1) 4 (i32 i) M = f_X6_read_106 (f_X6_read_41 m) 4 (i32 i) (i32 x1) M1 := by
          conv => lhs; unfold f_X6_read_41
          rw [if_neg lt, if_pos k4, r40, if_pos k2, et, if_neg (by exact n0), if_neg (by exact n125), bx e1]
        rw [st]
        have o1 := shRd_ok (n := n) hS hbt hB he
        generalize shRd vw S tb n T g d e = y at r1 o1
        match y, r1, o1 with
        | .inl y, r1, o1 =>
          obtain ⟨p1, p2⟩ := r1
          subst p1
          have nx : ¬ (i32 y.1 = i32 0) := i32_ne (by omega) (by omega) (by omega) (by omega) (by omega)
          refine ⟨y.1, M1, ?_, g1, rfl, p2⟩
          unfold f_X6_read_106
          rw [if_neg (by exact nx)]
        | .inr r, r1, o1 =>
          obtain ⟨p1, p2, p3, p4, e2', p5, p6, p7⟩ := r1
          subst p1
          have hR1 := hR.chg g1
          obtain ⟨M2, e2, g2, hR2, cs2, hk2, m42⟩ := adv_sh hR1 p2 p5 p6
          have k41 : mK M1 4 = 7 := by simp only [hR1.1.o]
          have k21 : mK M1 2 = 10 := by simp only [hR1.1.o]
          have r401 : mR M1 4 0 = 2 := hR1.2.2.2.2.1
          rw [← p7] at hk2
          obtain ⟨x3, M3, e3, g3, r3'⟩ := ih (i + 1) m r.1 r.2.1 r.2.2.1 r.2.2.2 _ M2 (by omega) (by omega) (by omega) hR2 cs2 o1.2.2.2 (by rw [m42]; exact p3) (by rw [m42]; exact p4) hk2 o1.2.1
          refine ⟨x3, M3, ?_, g1.tr (g2.tr g3), r3'⟩
          unfold f_X6_read_106
          rw [if_pos (by rfl), if_pos k41, r401, if_pos k21, bx e2, k_add1, e3]
end
