/-! schema, view in the reference: a field -/
def rfK (kF : Nat → Int32 → Int32 → Mem → Option (Unit × Mem)) (d f : Nat) (M : Mem) : Option (Unit × Mem) := bnd (f_X12_stepOn 134 M) fun _ M5 => if mK M5 134 = 13 then bnd (f_X12_readName 134 (i32 ((32 + f : Nat) : Int)) M5) fun _ M8 => if mK M8 134 = 13 then if (mI M8 134 12) = 0 then bnd (f_X12_isMarked 134 (123 : Int32) M8) fun r13 M12 => if r13 = 0 then if mK M12 134 = 13 then bnd (f_X12_isMarked 134 (59 : Int32) M12) fun r17 M16 => if r17 = 0 then if mK M16 134 = 13 then bnd (f_X12_wrong 134 (1 : Int32) M16) fun _ M20 => f_X12_readField_216 kF 134 (i32 d) (i32 f) (i32 ((32 + f : Nat) : Int)) r13 M20 else none else f_X12_readField_216 kF 134 (i32 d) (i32 f) (i32 ((32 + f : Nat) : Int)) r13 M16 else none else f_X12_readField_216 kF 134 (i32 d) (i32 f) (i32 ((32 + f : Nat) : Int)) r13 M12 else some ((), M8) else none else none
section
variable {M M' : Mem} {S T : Sc} {vw : Bool} {tb : Nat → Int} {n : Nat} {g : Int} {d f : Nat} {dp : Nat → Nat} {kF : Nat → Int32 → Int32 → Mem → Option (Unit × Mem)}
theorem X12_open (hL : RLay M) (hb : mI M 134 12 = i32 0) (tr : RTr M T vw) (hT : T.ok) (h16 : T.nf < 16) {w : Int} (w0 : 0 ≤ w) (w2 : w ≤ 2) (g0 : -1 ≤ g) (gf : g < T.nf) : ∃ M1, f_X12_readField_35 kF 134 (i32 g) (i32 d) (i32 w) M = rfK kF d T.nf M1 ∧ Chg shR M M1 ∧ RTo M1 (T.opn w g) vw T.nf ∧ ∀ j, mI M1 134 j = mI M 134 j := by
  obtain ⟨c0, c1, c2, c3, c4, c5, c6, c7, c8, c9⟩ := tr
  have t2 : (2 : Int32).toNatClampNeg = 2 := by decide
  have r23 : mR M 134 23 = 147 := by simp only [hL.o]
  have k147 : mK M 147 = 21 := by simp only [hL.o]
  have n147 : mN M 147 = 3 := by simp only [hL.o]
  have r15 : mR M 134 15 = 139 := by simp only [hL.o]
  have k139 : mK M 139 = 21 := by simp only [hL.o]
  have n139 : mN M 139 = 48 := by simp only [hL.o]
  have r16 : mR M 134 16 = 140 := by simp only [hL.o]
  have k140 : mK M 140 = 21 := by simp only [hL.o]
  have n140 : mN M 140 = 48 := by simp only [hL.o]
  have r17 : mR M 134 17 = 141 := by simp only [hL.o]
  have k141 : mK M 141 = 21 := by simp only [hL.o]
  have n141 : mN M 141 = 48 := by simp only [hL.o]
  have r21 : mR M 134 21 = 145 := by simp only [hL.o]
  have k145 : mK M 145 = 21 := by simp only [hL.o]
  have n145 : mN M 145 = 48 := by simp only [hL.o]
  have r18 : mR M 134 18 = 142 := by simp only [hL.o]
  have k142 : mK M 142 = 21 := by simp only [hL.o]
  have n142 : mN M 142 = 48 := by simp only [hL.o]
  have r19 : mR M 134 19 = 143 := by simp only [hL.o]
  have k143 : mK M 143 = 21 := by simp only [hL.o]
  have n143 : mN M 143 = 48 := by simp only [hL.o]
  have e32 : (32 : Int32) + i32 (T.nf : Int) = i32 ((32 + T.nf : Nat) : Int) := by
    rw [show (32 : Int32) = i32 32 from rfl, i32_add]
    rfl
  have inf : inB (i32 ((32 + T.nf : Nat) : Int)) 48 = true := by simp (disch := omega) only [↓reduceIte, add_i0, cast_add1, cast_sub1, toNat120, i32_lit, i32_neg, i32_add, i32_sub, i32_mul, i32_nat, i32_le, i32_lt, i32_eq, inB_i, Int.toNat_natCast, mI_sI_eq, mI_sI_ne, mR_sR_eq, mR_sR_ne, mI_sR, mR_sI, mK_sI, mN_sI, mn_sI, mJ_sI, mK_sR, mN_sR, mn_sR, mJ_sR, mI_wI, mR_wI, mK_wI, mN_wI, mn_wI, mJ_wI, ↓bnd_of, ↓bndX_r, ↓bndX_l, ↓ap_nr, bnd_of, bndX_r, bndX_l, if_true, if_false, ite_true, ite_false, not_true_eq_false, not_false_eq_true, Nat.reduceAdd, Nat.reduceMul, Nat.reduceEqDiff, Int.reduceToNat, Int.reduceNeg, Ilt_t, Ilt_f, Ile_t, Ile_f, Ieq_t, Ieq_f, Nlt_t, Nlt_f, Nle_t, Nle_f, Neq_t, Neq_f, or_true, true_or, or_false, false_or, and_true, true_and, and_false, false_and, ne_eq, or_self, and_self, decide_true, decide_false, Bool.false_eq_true]
  have nf := nat_i (k := 32 + T.nf) (by omega)
  obtain ⟨M1, em1⟩ : ∃ M1, sI (sI (sI (sI (sI M 147 2 (i32 ((T.nf + 1 : Nat) : Int))) 139 (32 + T.nf) (i32 w)) 140 (32 + T.nf) (i32 g)) 141 (32 + T.nf) (-1 : Int32)) 145 (32 + T.nf) (-1 : Int32) = M1 := ⟨_, rfl⟩
  have g1 : Chg shR M M1 := by
    rw [← em1]
    exact (((((Chg.rf shR M).sI (by unfold shR; omega)).sI (by unfold shR; omega)).sI (by unfold shR; omega)).sI (by unfold shR; omega)).sI (by unfold shR; omega)
  have hL1 := hL.all g1
  have r181 : mR M1 134 18 = 142 := by simp only [hL1.o]
  have k1421 : mK M1 142 = 21 := by simp only [hL1.o]
  have n1421 : mN M1 142 = 48 := by simp only [hL1.o]
  -- the levels
  have i1 : ∀ a j, a = 142 ∨ a = 143 → mI M1 a j = mI M a j := fun a j h => by rw [← em1, mI_sI_ne (by omega), mI_sI_ne (by omega), mI_sI_ne (by omega), mI_sI_ne (by omega), mI_sI_ne (by omega)]
  have sdg : ∃ x, (x = T.dg g ∧ f_X12_readField_35 kF 134 (i32 g) (i32 d) (i32 w) M = f_X12_readField_124 kF 134 (i32 g) (i32 d) (i32 w) (i32 T.nf) (i32 ((32 + T.nf : Nat) : Int)) 142 (i32 ((32 + T.nf : Nat) : Int)) (i32 x) M1) := by
    have head : f_X12_readField_35 kF 134 (i32 g) (i32 d) (i32 w) M = (if i32 g = (-1 : Int32) then f_X12_readField_124 kF 134 (i32 g) (i32 d) (i32 w) (i32 T.nf) (i32 ((32 + T.nf : Nat) : Int)) 142 (i32 ((32 + T.nf : Nat) : Int)) (0 : Int32) M1 else if inB ((32 : Int32) + i32 g) 48 = true then f_X12_readField_124 kF 134 (i32 g) (i32 d) (i32 w) (i32 T.nf) (i32 ((32 + T.nf : Nat) : Int)) 142 (i32 ((32 + T.nf : Nat) : Int)) (mI M1 142 ((32 : Int32) + i32 g).toNatClampNeg) M1 else none) := by
      unfold f_X12_readField_35
      rw [if_pos hL.k, hb, if_pos (by rfl), r23, if_pos k147, n147, if_pos (by decide), t2, c0, k_add1, ap_of, if_pos (by exact hL.k), mR_sI, r15, if_pos (by exact k139), e32, mN_sI, n139, if_pos inf, nf, ap_of, if_pos (by exact hL.k), mR_sI, mR_sI, r16, if_pos (by exact k140), mN_sI, mN_sI, n140, if_pos inf, ap_of, if_pos (by exact hL.k), mR_sI, mR_sI, mR_sI, r17, if_pos (by exact k141), mN_sI, mN_sI, mN_sI, n141, if_pos inf, ap_of, if_pos (by exact hL.k), mR_sI, mR_sI, mR_sI, mR_sI, r21, if_pos (by exact k145), mN_sI, mN_sI, mN_sI, mN_sI, n145, if_pos inf, ap_of, em1, if_pos hL1.k, r181, if_pos k1421, n1421]
    rw [head]
    by_cases c : g = -1
    · refine ⟨0, ?_, ?_⟩
      · unfold Sc.dg
        rw [if_pos c]
      · rw [if_pos (by rw [c]; rfl)]
        rfl
    · obtain ⟨p, hp⟩ : ∃ p : Nat, g = p := ⟨g.toNat, by omega⟩
      have ng : ¬ (i32 g = i32 (-1)) := i32_ne (by omega) (by omega) (by omega) (by omega) c
      have ep : (32 : Int32) + i32 (p : Int) = i32 ((32 + p : Nat) : Int) := by
        rw [show (32 : Int32) = i32 32 from rfl, i32_add]
        rfl
      have inp : inB (i32 ((32 + p : Nat) : Int)) 48 = true := by simp (disch := omega) only [↓reduceIte, add_i0, cast_add1, cast_sub1, toNat120, i32_lit, i32_neg, i32_add, i32_sub, i32_mul, i32_nat, i32_le, i32_lt, i32_eq, inB_i, Int.toNat_natCast, mI_sI_eq, mI_sI_ne, mR_sR_eq, mR_sR_ne, mI_sR, mR_sI, mK_sI, mN_sI, mn_sI, mJ_sI, mK_sR, mN_sR, mn_sR, mJ_sR, mI_wI, mR_wI, mK_wI, mN_wI, mn_wI, mJ_wI, ↓bnd_of, ↓bndX_r, ↓bndX_l, ↓ap_nr, bnd_of, bndX_r, bndX_l, if_true, if_false, ite_true, ite_false, not_true_eq_false, not_false_eq_true, Nat.reduceAdd, Nat.reduceMul, Nat.reduceEqDiff, Int.reduceToNat, Int.reduceNeg, Ilt_t, Ilt_f, Ile_t, Ile_f, Ieq_t, Ieq_f, Nlt_t, Nlt_f, Nle_t, Nle_f, Neq_t, Neq_f, or_true, true_or, or_false, false_or, and_true, true_and, and_false, false_and, ne_eq, or_self, and_self, decide_true, decide_false, Bool.false_eq_true]
      refine ⟨T.sd p, ?_, ?_⟩
      · unfold Sc.dg
        rw [if_neg c, hp, Int.toNat_natCast]
      · rw [if_neg (by exact ng), hp, ep, if_pos inp, nat_i (k := 32 + p) (by omega), i1 142 _ (Or.inl rfl), c5 p (by omega)]
  obtain ⟨x, hx, est⟩ := sdg
  obtain ⟨M2, em2⟩ : ∃ M2, sI M1 142 (32 + T.nf) (i32 (x + (if w = 0 then 0 else 1))) = M2 := ⟨_, rfl⟩
  have g2 : Chg shR M1 M2 := by rw [← em2]; exact (Chg.rf shR M1).sI (by unfold shR; omega)
  have hL2 := hL1.all g2
  have r192 : mR M2 134 19 = 143 := by simp only [hL2.o]
  have k1432 : mK M2 143 = 21 := by simp only [hL2.o]
  have n1432 : mN M2 143 = 48 := by simp only [hL2.o]
  obtain ⟨M3, em3⟩ : ∃ M3, sI M2 143 (32 + T.nf) (i32 (T.lv g + (if w = 2 then 1 else 0))) = M3 := ⟨_, rfl⟩
  have g3 : Chg shR M2 M3 := by rw [← em3]; exact (Chg.rf shR M2).sI (by unfold shR; omega)
  have hL3 := hL2.all g3
  have e169 : ∀ y : Int, y = T.lv g → f_X12_readField_159 kF 134 (i32 d) (i32 w) (i32 T.nf) (i32 ((32 + T.nf : Nat) : Int)) 143 (i32 ((32 + T.nf : Nat) : Int)) (i32 y) M2 = rfK kF d T.nf M3 := fun y hy => by
    have e : ∀ z : Int, z = (if w = 2 then 1 else 0) → f_X12_readField_169 kF 134 (i32 d) (i32 T.nf) (i32 ((32 + T.nf : Nat) : Int)) 143 (i32 ((32 + T.nf : Nat) : Int)) (i32 y) (i32 z) M2 = rfK kF d T.nf M3 := fun z hz => by
      unfold f_X12_readField_169 rfK
      rw [if_pos k1432, n1432, if_pos inf, nf, i32_add, hy, hz, ap_of, em3, if_pos hL3.k]
    unfold f_X12_readField_159
    by_cases c : w = 2
    · rw [if_pos (by rw [c]; rfl)]
      exact e 1 (by rw [if_pos c])
    · have nc : ¬ (i32 w = i32 2) := i32_ne (by omega) (by omega) (by omega) (by omega) c
      rw [if_neg (by exact nc)]
      exact e 0 (by rw [if_neg c])
  have e133 : ∀ z : Int, z = (if w = 0 then 0 else 1) → f_X12_readField_133 kF 134 (i32 g) (i32 d) (i32 w) (i32 T.nf) (i32 ((32 + T.nf : Nat) : Int)) 142 (i32 ((32 + T.nf : Nat) : Int)) (i32 x) (i32 z) M1 = rfK kF d T.nf M3 := fun z hz => by
    unfold f_X12_readField_133
    rw [if_pos k1421, n1421, if_pos inf, nf, i32_add, hz, ap_of, em2, if_pos hL2.k, r192]
    by_cases c : g = -1
    · rw [if_pos (by rw [c]; rfl)]
      refine e169 0 ?_
      unfold Sc.lv
      rw [if_pos c]
    · obtain ⟨p, hp⟩ : ∃ p : Nat, g = p := ⟨g.toNat, by omega⟩
      have ng : ¬ (i32 g = i32 (-1)) := i32_ne (by omega) (by omega) (by omega) (by omega) c
      have ep : (32 : Int32) + i32 (p : Int) = i32 ((32 + p : Nat) : Int) := by
        rw [show (32 : Int32) = i32 32 from rfl, i32_add]
        rfl
      have inp : inB (i32 ((32 + p : Nat) : Int)) 48 = true := by simp (disch := omega) only [↓reduceIte, add_i0, cast_add1, cast_sub1, toNat120, i32_lit, i32_neg, i32_add, i32_sub, i32_mul, i32_nat, i32_le, i32_lt, i32_eq, inB_i, Int.toNat_natCast, mI_sI_eq, mI_sI_ne, mR_sR_eq, mR_sR_ne, mI_sR, mR_sI, mK_sI, mN_sI, mn_sI, mJ_sI, mK_sR, mN_sR, mn_sR, mJ_sR, mI_wI, mR_wI, mK_wI, mN_wI, mn_wI, mJ_wI, ↓bnd_of, ↓bndX_r, ↓bndX_l, ↓ap_nr, bnd_of, bndX_r, bndX_l, if_true, if_false, ite_true, ite_false, not_true_eq_false, not_false_eq_true, Nat.reduceAdd, Nat.reduceMul, Nat.reduceEqDiff, Int.reduceToNat, Int.reduceNeg, Ilt_t, Ilt_f, Ile_t, Ile_f, Ieq_t, Ieq_f, Nlt_t, Nlt_f, Nle_t, Nle_f, Neq_t, Neq_f, or_true, true_or, or_false, false_or, and_true, true_and, and_false, false_and, ne_eq, or_self, and_self, decide_true, decide_false, Bool.false_eq_true]
      have ev : mI M2 143 (32 + p) = i32 (T.sr p) := by rw [← em2, mI_sI_ne (by omega), i1 143 _ (Or.inr rfl)]; exact c6 p (by omega)
      rw [if_neg (by exact ng), if_pos k1432, hp, ep, n1432, if_pos inp, nat_i (k := 32 + p) (by omega), ev]
      refine e169 (T.sr p) ?_
      unfold Sc.lv
      rw [if_neg c, hp, Int.toNat_natCast]
  have st : f_X12_readField_35 kF 134 (i32 g) (i32 d) (i32 w) M = rfK kF d T.nf M3 := by
    rw [est]
    unfold f_X12_readField_124
    by_cases c : w = 0
    · rw [if_pos (by rw [c]; rfl)]
      exact e133 0 (by rw [if_pos c])
    · have nc : ¬ (i32 w = i32 0) := i32_ne (by omega) (by omega) (by omega) (by omega) c
      rw [if_neg (by exact nc)]
      exact e133 1 (by rw [if_neg c])
  have rd : ∀ a j, (j ≠ 32 + T.nf ∨ (a ≠ 139 ∧ a ≠ 140 ∧ a ≠ 141 ∧ a ≠ 142 ∧ a ≠ 143 ∧ a ≠ 145)) → (a ≠ 147 ∨ j ≠ 2) → mI M3 a j = mI M a j := fun a j h1 h2 => by
    rw [← em3, mI_sI_ne (by omega), ← em2, mI_sI_ne (by omega), ← em1, mI_sI_ne (by omega), mI_sI_ne (by omega), mI_sI_ne (by omega), mI_sI_ne (by omega), mI_sI_ne (by omega)]
  have old : ∀ f, f < T.nf + 1 → f ≠ T.nf → f < T.nf := fun f h1 h2 => by omega
  refine ⟨M3, st, g1.tr (g2.tr g3), ⟨?_, ?_, fun f hf => ?_, fun f hf => ?_, fun f hf => ?_, fun f hf => ?_, fun f hf => ?_, fun f hf => ?_, fun f i hf hi => ?_, fun f hf => ?_⟩, fun j => rd 134 j (by omega) (by omega)⟩
  · rw [← em3, mI_sI_ne (by omega), ← em2, mI_sI_ne (by omega), ← em1, mI_sI_ne (by omega), mI_sI_ne (by omega), mI_sI_ne (by omega), mI_sI_ne (by omega), mI_sI_eq]
    rfl
  · rw [rd _ _ (by omega) (by omega)]; exact c1
  · show _ = i32 (upf T.kd T.nf w f)
    by_cases e : f = T.nf
    · rw [e, upf_eq, ← em3, mI_sI_ne (by omega), ← em2, mI_sI_ne (by omega), ← em1, mI_sI_ne (by omega), mI_sI_ne (by omega), mI_sI_ne (by omega), mI_sI_eq]
    · rw [upf_ne _ _ e, rd _ _ (by omega) (by omega)]; exact c2 f (old f hf e)
  · show _ = i32 (upf T.gr T.nf g f)
    by_cases e : f = T.nf
    · rw [e, upf_eq, ← em3, mI_sI_ne (by omega), ← em2, mI_sI_ne (by omega), ← em1, mI_sI_ne (by omega), mI_sI_ne (by omega), mI_sI_eq]
    · rw [upf_ne _ _ e, rd _ _ (by omega) (by omega)]; exact c3 f (old f hf e)
  · show _ = i32 (upf T.lf T.nf (-1) f)
    by_cases e : f = T.nf
    · rw [e, upf_eq, ← em3, mI_sI_ne (by omega), ← em2, mI_sI_ne (by omega), ← em1, mI_sI_ne (by omega), mI_sI_eq]
      rfl
    · rw [upf_ne _ _ e, rd _ _ (by omega) (by omega)]; exact c4 f (old f hf e)
  · show _ = i32 (upf T.sd T.nf (T.dg g + (if w = 0 then 0 else 1)) f)
    by_cases e : f = T.nf
    · rw [e, upf_eq, ← em3, mI_sI_ne (by omega), ← em2, mI_sI_eq, hx]
    · rw [upf_ne _ _ e, rd _ _ (by omega) (by omega)]; exact c5 f (old f hf e)
  · show _ = i32 (upf T.sr T.nf (T.lv g + (if w = 2 then 1 else 0)) f)
    by_cases e : f = T.nf
    · rw [e, upf_eq, ← em3, mI_sI_eq]
    · rw [upf_ne _ _ e, rd _ _ (by omega) (by omega)]; exact c6 f (old f hf e)
  · show _ = i32 (upf T.ln T.nf 0 f)
    rw [upf_ne _ _ (by omega), rd _ _ (by omega) (by omega)]; exact c7 f hf
  · have hi : (i : Int) < upf T.ln T.nf 0 f := hi
    rw [upf_ne _ _ (by omega)] at hi
    rw [rd _ _ (by omega) (by omega)]; exact c8 f i hf hi
  · show _ = i32 (if vw = true then upf T.tw T.nf (-1) f else -1)
    by_cases e : f = T.nf
    · have ev : mI M3 145 (32 + f) = i32 (-1) := by rw [e, ← em3, mI_sI_ne (by omega), ← em2, mI_sI_ne (by omega), ← em1, mI_sI_eq]; rfl
      rw [ev, e, upf_eq]
      cases vw <;> rfl
    · rw [upf_ne _ _ e, rd _ _ (by omega) (by omega)]; exact c9 f (old f hf e)
end
