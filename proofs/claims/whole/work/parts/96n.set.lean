/-! set, damage: the class's calls -/
abbrev okE (S : Sc) (A : St) (l j : Int) : Prop := 0 ≤ l ∧ l < S.nl ∧ 0 ≤ j ∧ j < A.sz l.toNat
abbrev stE (S : Sc) (A : St) (l j : Nat) (v : Int) : Prop := A.df l j = S.fu l ∧ 0 ≤ v ∧ v ≤ 999 ∧ v ≠ A.vl l j
def a_set (S : Sc) (A : St) (l j v : Int) : Nat ⊕ Int32 := if okE S A l j then (if stE S A l.toNat j.toNat v then .inr (i32 (A.vl l.toNat j.toNat)) else .inr (i32 (-1))) else .inl 1
def dmO (A : St) (w : Int) (l j : Nat) : Int := if w = 0 then A.rp l j else A.df l j
def dmN (A : St) (w : Int) (l j : Nat) (v : Int) : St := if w = 0 then A.wRp l j v else A.wDf l j v
abbrev dmE (v o : Int) : Prop := 0 ≤ v ∧ v ≤ 9 ∧ v ≠ o
def a_damage (S : Sc) (A : St) (l j w v : Int) : Nat ⊕ Int32 := if okE S A l j ∧ 0 ≤ w ∧ w ≤ 1 then (if dmE v (dmO A w l.toNat j.toNat) then .inr (i32 (dmO A w l.toNat j.toNat)) else .inr (i32 (-1))) else .inl 1
/-- an act was done, another was refused -/
def CDone (M M' : Mem) (S : Sc) (n : Nat) (Bs : Nat → St) (A' : St) : Prop := Gw acI acR M M' ∧ CC M' 21 S.fu A' ∧ mI M' 18 1 = mI M 18 1 ∧ ActsC M' 18 20 S.nl (nK n) (bsK n Bs A') ∧ mn M' = mn M + 1
def CRef (M M' : Mem) : Prop := M' = sI M 18 5 (mI M 18 5 + i32 1)
section
variable {M : Mem} {s n : Nat} {S : Sc} {A : St} {Bs : Nat → St}
theorem CC.q2 {M2 : Mem} {fu : Nat → Int} (h : CC M 21 fu A) (q2 : ∀ a j, a ≤ 164 → ¬ (a = 18 ∧ j = 3) → mI M2 a j = mI M a j) : CC M2 21 fu A := by
  obtain ⟨a0, a1, a2, a3, a4, a5, a6⟩ := h
  refine ⟨a0, fun k q => ?_, fun k i q r => ?_, fun k i q r => ?_, fun k i q r => ?_, fun k q => ?_, a6⟩
  · rw [q2 _ _ (by omega) (by omega)]; exact a1 k q
  · rw [q2 _ _ (by omega) (by omega)]; exact a2 k i q r
  · rw [q2 _ _ (by omega) (by omega)]; exact a3 k i q r
  · rw [q2 _ _ (by omega) (by omega)]; exact a4 k i q r
  · rw [q2 _ _ (by omega) (by omega)]; exact a5 k q
theorem wrAct (hL : CLay M) (hm : 164 ≤ mn M) (hac : ActsC M 18 20 S.nl n Bs) (hA : CC M 21 S.fu A) {l : Nat} (hl : l < 8) {ro j : Nat} (hro : ro = 21 + 4 * l + 1 ∨ ro = 21 + 4 * l + 2 ∨ ro = 21 + 4 * l + 3) (kd : Int32) (li ji oi : Int32) (v : Int) {A' : St} (hact : ∀ M1 : Mem, mn M1 = mn M + 1 → mK M1 (mn M + 1) = 1 → mI M1 (mn M + 1) 0 = kd → mI M1 (mn M + 1) 1 = li → mI M1 (mn M + 1) 2 = ji → mI M1 (mn M + 1) 3 = oi → ActOk M1 S.nl (mn M + 1) (Bs n) A') (hcc : ∀ M2, CC M2 21 S.fu A → CC (sI M2 ro j (i32 v)) 21 S.fu A') : ∃ M1 M2, f_X0_init (mn M + 1) kd li ji oi 0 (mNew M 1 0) = some ((), M1) ∧ mK M1 18 = 8 ∧ f_X7_keep 18 (mn M + 1) M1 = some ((), M2) ∧ Gw acI acR M M2 ∧ CDone M (sI M2 ro j (i32 v)) S n Bs A' := by
  obtain ⟨M1, M2, e1, k18, e2, g2, q2, n2, ac2⟩ := newAct hL hm hac kd li ji oi (r := 0) (Nat.zero_le _) (A' := A') (fun M1 _ w1 w2 w3 w4 w5 w6 _ => hact M1 w1 w2 w3 w4 w5 w6)
  have g3 : Gw (fun a i => a = ro ∧ i = j) (fun _ _ => False) M2 (sI M2 ro j (i32 v)) := (Gw.rf _ _ M2).sI (Or.inl ⟨by omega, rfl, rfl⟩)
  refine ⟨M1, M2, e1, k18, e2, g2, g2.sI (Or.inl ⟨by omega, by unfold acI; omega⟩), hcc M2 (hA.q2 q2), ?_, ac2.gw g3 (by omega) (fun _ q => q), n2⟩
  rw [mI_sI_ne (by omega)]
  exact q2 18 1 (by omega) (by omega)
theorem c_set (h : RO M s S A) (hm2 : mn M + 1 < 900000) (hac : ActsC M 18 20 S.nl n Bs) (hBs : Bs n = A) (l j v : Int) (z1 : -2147483648 ≤ l) (z2 : l ≤ 2147483647) (z3 : -2147483648 ≤ j) (z4 : j ≤ 2147483647) (z5 : -2147483648 ≤ v) (z6 : v ≤ 2147483647) : ∃ M', f_X11_set 1 (i32 l) (i32 j) (i32 v) M = some (a_set S A l j v, M') ∧ (if okE S A l j then (if stE S A l.toNat j.toNat v then CDone M M' S n Bs (A.wVl l.toNat j.toNat v) else CRef M M') else M' = M) := by
  obtain ⟨hW, hV, -, h8⟩ := h
  have hn := X11_needEntry hV h8 hW.1 l j z1 z2 z3 z4
  have b := hW.1.2.1
  obtain ⟨hL, hc, hs, hC, hA, hr, h88, h112, hm⟩ := hV
  have k1 : mK M 1 = 12 := by simp only [hL.o]
  have r6 : mR M 1 6 = 18 := by simp only [hL.o]
  have ht := hL.tel
  unfold a_set
  by_cases d : okE S A l j
  · rw [if_pos (by exact d)] at hn
    simp only [if_pos d]
    unfold okE at d
    obtain ⟨l, rfl⟩ : ∃ k : Nat, l = k := ⟨l.toNat, by omega⟩
    obtain ⟨j, rfl⟩ : ∃ k : Nat, j = k := ⟨j.toNat, by omega⟩
    simp only [Int.toNat_natCast] at d ⊢
    have hl8 : l < 8 := by omega
    have hj : j < A.sz l := by omega
    have hz := hA.1.2.2.2.1 l
    have hj120 : j < 120 := by omega
    have bv := St.b hA.1 l j
    have ehv := X2_hasValue hc hA hl8 hj
    have hca := hc.at21 hl8
    have ev := hA.2.2.2.2.1 l j hl8 hj
    have nl := nat_i (k := l) (by omega)
    have nj := nat_i (k := j) (by omega)
    have in8 : inB (i32 (l : Int)) 8 = true := by clear hca; simp (disch := omega) only [↓reduceIte, add_i0, cast_add1, cast_sub1, toNat120, i32_lit, i32_neg, i32_add, i32_sub, i32_mul, i32_nat, i32_le, i32_lt, i32_eq, inB_i, Int.toNat_natCast, mI_sI_eq, mI_sI_ne, mR_sR_eq, mR_sR_ne, mI_sR, mR_sI, mK_sI, mN_sI, mn_sI, mJ_sI, mK_sR, mN_sR, mn_sR, mJ_sR, mI_wI, mR_wI, mK_wI, mN_wI, mn_wI, mJ_wI, ↓bnd_of, ↓bndX_r, ↓bndX_l, ↓ap_nr, bnd_of, bndX_r, bndX_l, if_true, if_false, ite_true, ite_false, not_true_eq_false, not_false_eq_true, Nat.reduceAdd, Nat.reduceMul, Nat.reduceEqDiff, Int.reduceToNat, Int.reduceNeg, Ilt_t, Ilt_f, Ile_t, Ile_f, Ieq_t, Ieq_f, Nlt_t, Nlt_f, Nle_t, Nle_f, Neq_t, Neq_f, or_true, true_or, or_false, false_or, and_true, true_and, and_false, false_and, ne_eq, or_self, and_self, decide_true, decide_false, Bool.false_eq_true]
    have inj : inB (i32 (j : Int)) 120 = true := by clear hca; simp (disch := omega) only [↓reduceIte, add_i0, cast_add1, cast_sub1, toNat120, i32_lit, i32_neg, i32_add, i32_sub, i32_mul, i32_nat, i32_le, i32_lt, i32_eq, inB_i, Int.toNat_natCast, mI_sI_eq, mI_sI_ne, mR_sR_eq, mR_sR_ne, mI_sR, mR_sI, mK_sI, mN_sI, mn_sI, mJ_sI, mK_sR, mN_sR, mn_sR, mJ_sR, mI_wI, mR_wI, mK_wI, mN_wI, mn_wI, mJ_wI, ↓bnd_of, ↓bndX_r, ↓bndX_l, ↓ap_nr, bnd_of, bndX_r, bndX_l, if_true, if_false, ite_true, ite_false, not_true_eq_false, not_false_eq_true, Nat.reduceAdd, Nat.reduceMul, Nat.reduceEqDiff, Int.reduceToNat, Int.reduceNeg, Ilt_t, Ilt_f, Ile_t, Ile_f, Ieq_t, Ieq_f, Nlt_t, Nlt_f, Nle_t, Nle_f, Neq_t, Neq_f, or_true, true_or, or_false, false_or, and_true, true_and, and_false, false_and, ne_eq, or_self, and_self, decide_true, decide_false, Bool.false_eq_true]
    have eref := X11_refuse hL
    have ref : f_X11_set_52 1 M = some (.inr (i32 (-1)), sI M 18 5 (mI M 18 5 + i32 1)) := by
      unfold f_X11_set_52
      rw [if_pos k1, bx eref]
    have hpre : ∀ X, (if (if A.df l j = S.fu l then i32 1 else i32 0) = 0 then f_X11_set_52 1 M else if i32 v < 0 then f_X11_set_52 1 M else if (999 : Int32) < i32 v then f_X11_set_52 1 M else if i32 v = i32 (A.vl l j) then f_X11_set_52 1 M else if mK M 1 = 12 then if mn M + 1 < 900000 then if okrB M [1, 21 + 4 * l, 18] = true then ap (mNew M 1 0) fun M19 => if ¬ (mn M + 1) = 0 then bnd (f_X0_init (mn M + 1) (2 : Int32) (i32 l) (i32 j) (i32 (A.vl l j)) 0 M19) fun _ M21 => if mK M21 18 = 8 then bnd (f_X7_keep 18 (mn M + 1) M21) fun _ M24 => if mK M24 (21 + 4 * l) = 3 then if mK M24 (mR M24 (21 + 4 * l) 2) = 21 then if inB (i32 j) (mN M24 (mR M24 (21 + 4 * l) 2)) = true then ap (sI M24 (mR M24 (21 + 4 * l) 2) j (i32 v)) fun M29 => some (.inr (i32 (A.vl l j)), M29) else none else none else none else none else none else none else none else none) = some X → f_X11_set 1 (i32 l) (i32 j) (i32 v) M = some X := by
      intro X hX
      unfold f_X11_set
      rw [if_pos k1, bxX hn, if_pos k1, r6, if_pos ht.o.2.2.2.2.1, ht.o.2.2.2.2.2.1, if_pos ht.o.2.2.2.2.2.2.1, ht.o.2.2.2.2.2.2.2, if_pos in8, nl, hca.o.2.2.2.2.2.2.2.2.2.2, if_pos hca.o.1, hca.o.2.2.2.1, if_pos hca.o.2.2.2.2.2.2.1, hca.o.2.2.2.2.2.2.2.2.2.1, if_pos inj, bx ehv, nj, ev, r6]
      exact hX
    by_cases c : stE S A l j v
    · simp only [if_pos c]
      obtain ⟨c1, c2, c3, c4⟩ := c
      obtain ⟨M1, M2, e1, k18, e2, g2, q2⟩ := wrAct hL hm hac hA hl8 (ro := 21 + 4 * l + 3) (j := j) (by omega) (2 : Int32) (i32 l) (i32 j) (i32 (A.vl l j)) v (A' := A.wVl l j v) (fun M1 w1 w2 w3 w4 w5 w6 => ⟨w2, by omega, by omega, by rw [hBs]; exact hA.1, Or.inr (Or.inr (Or.inl ⟨w3, l, j, A.vl l j, by omega, hj, w4, w5, w6, by rw [hBs]; exact wVl_back A l j v⟩))⟩) (fun M2 w => CC.wVl w hl8 c2 c3)
      have hc2 : ColLay M2 21 := ColLay.gw hc (Or.inl rfl) g2 acR_dy
      have hca2 := hc2.at21 hl8
      refine ⟨sI M2 (21 + 4 * l + 3) j (i32 v), hpre _ ?_, q2⟩
      rw [if_neg (by rw [if_pos c1]; decide), if_neg (by clear hca hca2; simp (disch := omega) only [↓reduceIte, add_i0, cast_add1, cast_sub1, toNat120, i32_lit, i32_neg, i32_add, i32_sub, i32_mul, i32_nat, i32_le, i32_lt, i32_eq, inB_i, Int.toNat_natCast, mI_sI_eq, mI_sI_ne, mR_sR_eq, mR_sR_ne, mI_sR, mR_sI, mK_sI, mN_sI, mn_sI, mJ_sI, mK_sR, mN_sR, mn_sR, mJ_sR, mI_wI, mR_wI, mK_wI, mN_wI, mn_wI, mJ_wI, ↓bnd_of, ↓bndX_r, ↓bndX_l, ↓ap_nr, bnd_of, bndX_r, bndX_l, if_true, if_false, ite_true, ite_false, not_true_eq_false, not_false_eq_true, Nat.reduceAdd, Nat.reduceMul, Nat.reduceEqDiff, Int.reduceToNat, Int.reduceNeg, Ilt_t, Ilt_f, Ile_t, Ile_f, Ieq_t, Ieq_f, Nlt_t, Nlt_f, Nle_t, Nle_f, Neq_t, Neq_f, or_true, true_or, or_false, false_or, and_true, true_and, and_false, false_and, ne_eq, or_self, and_self, decide_true, decide_false, Bool.false_eq_true]), if_neg (by clear hca hca2; simp (disch := omega) only [↓reduceIte, add_i0, cast_add1, cast_sub1, toNat120, i32_lit, i32_neg, i32_add, i32_sub, i32_mul, i32_nat, i32_le, i32_lt, i32_eq, inB_i, Int.toNat_natCast, mI_sI_eq, mI_sI_ne, mR_sR_eq, mR_sR_ne, mI_sR, mR_sI, mK_sI, mN_sI, mn_sI, mJ_sI, mK_sR, mN_sR, mn_sR, mJ_sR, mI_wI, mR_wI, mK_wI, mN_wI, mn_wI, mJ_wI, ↓bnd_of, ↓bndX_r, ↓bndX_l, ↓ap_nr, bnd_of, bndX_r, bndX_l, if_true, if_false, ite_true, ite_false, not_true_eq_false, not_false_eq_true, Nat.reduceAdd, Nat.reduceMul, Nat.reduceEqDiff, Int.reduceToNat, Int.reduceNeg, Ilt_t, Ilt_f, Ile_t, Ile_f, Ieq_t, Ieq_f, Nlt_t, Nlt_f, Nle_t, Nle_f, Neq_t, Neq_f, or_true, true_or, or_false, false_or, and_true, true_and, and_false, false_and, ne_eq, or_self, and_self, decide_true, decide_false, Bool.false_eq_true]), if_neg (i32_ne (by omega) (by omega) (by omega) (by omega) c4), if_pos k1, if_pos hm2, if_pos (okBn (fun r hr => by simp at hr; omega)), ap_of, if_pos (by omega), bx e1, if_pos k18, bx e2, if_pos hca2.o.1, hca2.o.2.2.2.1, if_pos hca2.o.2.2.2.2.2.2.1, hca2.o.2.2.2.2.2.2.2.2.2.1, if_pos inj, ap_of]
    · simp only [if_neg c]
      refine ⟨_, hpre (.inr (i32 (-1)), _) ?_, rfl⟩
      by_cases c1 : A.df l j = S.fu l
      · rw [if_neg (by rw [if_pos c1]; decide)]
        by_cases c2 : 0 ≤ v
        · rw [if_neg (by clear hca; simp (disch := omega) only [↓reduceIte, add_i0, cast_add1, cast_sub1, toNat120, i32_lit, i32_neg, i32_add, i32_sub, i32_mul, i32_nat, i32_le, i32_lt, i32_eq, inB_i, Int.toNat_natCast, mI_sI_eq, mI_sI_ne, mR_sR_eq, mR_sR_ne, mI_sR, mR_sI, mK_sI, mN_sI, mn_sI, mJ_sI, mK_sR, mN_sR, mn_sR, mJ_sR, mI_wI, mR_wI, mK_wI, mN_wI, mn_wI, mJ_wI, ↓bnd_of, ↓bndX_r, ↓bndX_l, ↓ap_nr, bnd_of, bndX_r, bndX_l, if_true, if_false, ite_true, ite_false, not_true_eq_false, not_false_eq_true, Nat.reduceAdd, Nat.reduceMul, Nat.reduceEqDiff, Int.reduceToNat, Int.reduceNeg, Ilt_t, Ilt_f, Ile_t, Ile_f, Ieq_t, Ieq_f, Nlt_t, Nlt_f, Nle_t, Nle_f, Neq_t, Neq_f, or_true, true_or, or_false, false_or, and_true, true_and, and_false, false_and, ne_eq, or_self, and_self, decide_true, decide_false, Bool.false_eq_true])]
          by_cases c3 : v ≤ 999
          · rw [if_neg (by clear hca; simp (disch := omega) only [↓reduceIte, add_i0, cast_add1, cast_sub1, toNat120, i32_lit, i32_neg, i32_add, i32_sub, i32_mul, i32_nat, i32_le, i32_lt, i32_eq, inB_i, Int.toNat_natCast, mI_sI_eq, mI_sI_ne, mR_sR_eq, mR_sR_ne, mI_sR, mR_sI, mK_sI, mN_sI, mn_sI, mJ_sI, mK_sR, mN_sR, mn_sR, mJ_sR, mI_wI, mR_wI, mK_wI, mN_wI, mn_wI, mJ_wI, ↓bnd_of, ↓bndX_r, ↓bndX_l, ↓ap_nr, bnd_of, bndX_r, bndX_l, if_true, if_false, ite_true, ite_false, not_true_eq_false, not_false_eq_true, Nat.reduceAdd, Nat.reduceMul, Nat.reduceEqDiff, Int.reduceToNat, Int.reduceNeg, Ilt_t, Ilt_f, Ile_t, Ile_f, Ieq_t, Ieq_f, Nlt_t, Nlt_f, Nle_t, Nle_f, Neq_t, Neq_f, or_true, true_or, or_false, false_or, and_true, true_and, and_false, false_and, ne_eq, or_self, and_self, decide_true, decide_false, Bool.false_eq_true]), if_pos (by rw [show v = A.vl l j from Decidable.byContradiction (fun q => c ⟨c1, c2, c3, q⟩)]), ref]
          · rw [if_pos (by clear hca; simp (disch := omega) only [↓reduceIte, add_i0, cast_add1, cast_sub1, toNat120, i32_lit, i32_neg, i32_add, i32_sub, i32_mul, i32_nat, i32_le, i32_lt, i32_eq, inB_i, Int.toNat_natCast, mI_sI_eq, mI_sI_ne, mR_sR_eq, mR_sR_ne, mI_sR, mR_sI, mK_sI, mN_sI, mn_sI, mJ_sI, mK_sR, mN_sR, mn_sR, mJ_sR, mI_wI, mR_wI, mK_wI, mN_wI, mn_wI, mJ_wI, ↓bnd_of, ↓bndX_r, ↓bndX_l, ↓ap_nr, bnd_of, bndX_r, bndX_l, if_true, if_false, ite_true, ite_false, not_true_eq_false, not_false_eq_true, Nat.reduceAdd, Nat.reduceMul, Nat.reduceEqDiff, Int.reduceToNat, Int.reduceNeg, Ilt_t, Ilt_f, Ile_t, Ile_f, Ieq_t, Ieq_f, Nlt_t, Nlt_f, Nle_t, Nle_f, Neq_t, Neq_f, or_true, true_or, or_false, false_or, and_true, true_and, and_false, false_and, ne_eq, or_self, and_self, decide_true, decide_false, Bool.false_eq_true]), ref]
        · rw [if_pos (by clear hca; simp (disch := omega) only [↓reduceIte, add_i0, cast_add1, cast_sub1, toNat120, i32_lit, i32_neg, i32_add, i32_sub, i32_mul, i32_nat, i32_le, i32_lt, i32_eq, inB_i, Int.toNat_natCast, mI_sI_eq, mI_sI_ne, mR_sR_eq, mR_sR_ne, mI_sR, mR_sI, mK_sI, mN_sI, mn_sI, mJ_sI, mK_sR, mN_sR, mn_sR, mJ_sR, mI_wI, mR_wI, mK_wI, mN_wI, mn_wI, mJ_wI, ↓bnd_of, ↓bndX_r, ↓bndX_l, ↓ap_nr, bnd_of, bndX_r, bndX_l, if_true, if_false, ite_true, ite_false, not_true_eq_false, not_false_eq_true, Nat.reduceAdd, Nat.reduceMul, Nat.reduceEqDiff, Int.reduceToNat, Int.reduceNeg, Ilt_t, Ilt_f, Ile_t, Ile_f, Ieq_t, Ieq_f, Nlt_t, Nlt_f, Nle_t, Nle_f, Neq_t, Neq_f, or_true, true_or, or_false, false_or, and_true, true_and, and_false, false_and, ne_eq, or_self, and_self, decide_true, decide_false, Bool.false_eq_true]), ref]
      · rw [if_pos (by rw [if_neg c1]; rfl), ref]
  · rw [if_neg (by exact d)] at hn
    simp only [if_neg d]
    refine ⟨M, ?_, rfl⟩
    unfold f_X11_set
    rw [if_pos k1, bxL hn]
theorem X11_damage53 (hL : CLay M) (hm : 164 ≤ mn M) (hm2 : mn M + 1 < 900000) (hac : ActsC M 18 20 S.nl n Bs) (hA : CC M 21 S.fu A) {l j : Nat} (hl : l < 8) (hj120 : j < 120) {ro : Nat} (hro : ro = 21 + 4 * l + 1 ∨ ro = 21 + 4 * l + 2) (kro : mK M ro = 21) (nro : mN M ro = 120) {old : Int} (eo : mI M ro j = i32 old) (o0 : 0 ≤ old) (o9 : old ≤ 9) {kd : Int32} {A' : St} (hact : ∀ M1 : Mem, mn M1 = mn M + 1 → mK M1 (mn M + 1) = 1 → mI M1 (mn M + 1) 0 = kd → mI M1 (mn M + 1) 1 = i32 l → mI M1 (mn M + 1) 2 = i32 j → mI M1 (mn M + 1) 3 = i32 old → ActOk M1 S.nl (mn M + 1) (Bs n) A') (w : Int) (hkd : (i32 w = (0 : Int32) ∧ kd = 3) ∨ (¬ i32 w = (0 : Int32) ∧ kd = 4)) (v : Int) (z7 : -2147483648 ≤ v) (z8 : v ≤ 2147483647) (hcc : ∀ M2, CC M2 21 S.fu A → 0 ≤ v → v ≤ 9 → CC (sI M2 ro j (i32 v)) 21 S.fu A') : ∃ M', f_X11_damage_53 1 (i32 l) (i32 j) (i32 w) (i32 v) ro M = some (if dmE v old then .inr (i32 old) else .inr (i32 (-1)), M') ∧ (if dmE v old then CDone M M' S n Bs A' else CRef M M') := by
  have k1 : mK M 1 = 12 := by simp only [hL.o]
  have r6 : mR M 1 6 = 18 := by simp only [hL.o]
  have nj := nat_i (k := j) (by omega)
  have inj : inB (i32 (j : Int)) 120 = true := by simp (disch := omega) only [↓reduceIte, add_i0, cast_add1, cast_sub1, toNat120, i32_lit, i32_neg, i32_add, i32_sub, i32_mul, i32_nat, i32_le, i32_lt, i32_eq, inB_i, Int.toNat_natCast, mI_sI_eq, mI_sI_ne, mR_sR_eq, mR_sR_ne, mI_sR, mR_sI, mK_sI, mN_sI, mn_sI, mJ_sI, mK_sR, mN_sR, mn_sR, mJ_sR, mI_wI, mR_wI, mK_wI, mN_wI, mn_wI, mJ_wI, ↓bnd_of, ↓bndX_r, ↓bndX_l, ↓ap_nr, bnd_of, bndX_r, bndX_l, if_true, if_false, ite_true, ite_false, not_true_eq_false, not_false_eq_true, Nat.reduceAdd, Nat.reduceMul, Nat.reduceEqDiff, Int.reduceToNat, Int.reduceNeg, Ilt_t, Ilt_f, Ile_t, Ile_f, Ieq_t, Ieq_f, Nlt_t, Nlt_f, Nle_t, Nle_f, Neq_t, Neq_f, or_true, true_or, or_false, false_or, and_true, true_and, and_false, false_and, ne_eq, or_self, and_self, decide_true, decide_false, Bool.false_eq_true]
  have eref := X11_refuse hL
  have ref : f_X11_damage_80 1 M = some (.inr (i32 (-1)), sI M 18 5 (mI M 18 5 + i32 1)) := by
    unfold f_X11_damage_80
    rw [if_pos k1, bx eref]
  unfold f_X11_damage_53
  rw [if_pos kro, nro, if_pos inj, nj, eo]
  by_cases c : dmE v old
  · simp only [if_pos c]
    obtain ⟨c2, c3, c4⟩ := c
    obtain ⟨M1, M2, e1, k18, e2, g2, q2⟩ := wrAct hL hm hac hA hl (ro := ro) (j := j) (by omega) kd (i32 l) (i32 j) (i32 old) v (A' := A') hact (fun M2 q => hcc M2 q c2 c3)
    have kro2 : mK M2 ro = 21 := by rw [(g2.1 ro (by omega)).1]; exact kro
    have nro2 : mN M2 ro = 120 := by rw [(g2.1 ro (by omega)).2]; exact nro
    refine ⟨sI M2 ro j (i32 v), ?_, q2⟩
    have key : f_X11_damage_102 (i32 l) (i32 j) (i32 v) ro (i32 old) 18 (mn M + 1) (mn M + 1) kd (mNew M 1 0) = some (.inr (i32 old), sI M2 ro j (i32 v)) := by
      unfold f_X11_damage_102
      rw [if_pos (by omega), bx e1, if_pos k18, bx e2, if_pos kro2, nro2, if_pos inj, ap_of, nj]
    rw [if_neg (by simp (disch := omega) only [↓reduceIte, add_i0, cast_add1, cast_sub1, toNat120, i32_lit, i32_neg, i32_add, i32_sub, i32_mul, i32_nat, i32_le, i32_lt, i32_eq, inB_i, Int.toNat_natCast, mI_sI_eq, mI_sI_ne, mR_sR_eq, mR_sR_ne, mI_sR, mR_sI, mK_sI, mN_sI, mn_sI, mJ_sI, mK_sR, mN_sR, mn_sR, mJ_sR, mI_wI, mR_wI, mK_wI, mN_wI, mn_wI, mJ_wI, ↓bnd_of, ↓bndX_r, ↓bndX_l, ↓ap_nr, bnd_of, bndX_r, bndX_l, if_true, if_false, ite_true, ite_false, not_true_eq_false, not_false_eq_true, Nat.reduceAdd, Nat.reduceMul, Nat.reduceEqDiff, Int.reduceToNat, Int.reduceNeg, Ilt_t, Ilt_f, Ile_t, Ile_f, Ieq_t, Ieq_f, Nlt_t, Nlt_f, Nle_t, Nle_f, Neq_t, Neq_f, or_true, true_or, or_false, false_or, and_true, true_and, and_false, false_and, ne_eq, or_self, and_self, decide_true, decide_false, Bool.false_eq_true]), if_neg (by simp (disch := omega) only [↓reduceIte, add_i0, cast_add1, cast_sub1, toNat120, i32_lit, i32_neg, i32_add, i32_sub, i32_mul, i32_nat, i32_le, i32_lt, i32_eq, inB_i, Int.toNat_natCast, mI_sI_eq, mI_sI_ne, mR_sR_eq, mR_sR_ne, mI_sR, mR_sI, mK_sI, mN_sI, mn_sI, mJ_sI, mK_sR, mN_sR, mn_sR, mJ_sR, mI_wI, mR_wI, mK_wI, mN_wI, mn_wI, mJ_wI, ↓bnd_of, ↓bndX_r, ↓bndX_l, ↓ap_nr, bnd_of, bndX_r, bndX_l, if_true, if_false, ite_true, ite_false, not_true_eq_false, not_false_eq_true, Nat.reduceAdd, Nat.reduceMul, Nat.reduceEqDiff, Int.reduceToNat, Int.reduceNeg, Ilt_t, Ilt_f, Ile_t, Ile_f, Ieq_t, Ieq_f, Nlt_t, Nlt_f, Nle_t, Nle_f, Neq_t, Neq_f, or_true, true_or, or_false, false_or, and_true, true_and, and_false, false_and, ne_eq, or_self, and_self, decide_true, decide_false, Bool.false_eq_true]), if_neg (i32_ne (by omega) (by omega) (by omega) (by omega) c4), if_pos k1, if_pos hm2, r6, if_pos (okBn (fun r hr => by simp at hr; omega)), ap_of]
    rcases hkd with ⟨c5, c6⟩ | ⟨c5, c6⟩
    · rw [if_pos c5, ← c6]
      exact key
    · rw [if_neg c5, ← c6]
      exact key
  · simp only [if_neg c]
    refine ⟨_, ?_, rfl⟩
    by_cases c2 : 0 ≤ v
    · rw [if_neg (by simp (disch := omega) only [↓reduceIte, add_i0, cast_add1, cast_sub1, toNat120, i32_lit, i32_neg, i32_add, i32_sub, i32_mul, i32_nat, i32_le, i32_lt, i32_eq, inB_i, Int.toNat_natCast, mI_sI_eq, mI_sI_ne, mR_sR_eq, mR_sR_ne, mI_sR, mR_sI, mK_sI, mN_sI, mn_sI, mJ_sI, mK_sR, mN_sR, mn_sR, mJ_sR, mI_wI, mR_wI, mK_wI, mN_wI, mn_wI, mJ_wI, ↓bnd_of, ↓bndX_r, ↓bndX_l, ↓ap_nr, bnd_of, bndX_r, bndX_l, if_true, if_false, ite_true, ite_false, not_true_eq_false, not_false_eq_true, Nat.reduceAdd, Nat.reduceMul, Nat.reduceEqDiff, Int.reduceToNat, Int.reduceNeg, Ilt_t, Ilt_f, Ile_t, Ile_f, Ieq_t, Ieq_f, Nlt_t, Nlt_f, Nle_t, Nle_f, Neq_t, Neq_f, or_true, true_or, or_false, false_or, and_true, true_and, and_false, false_and, ne_eq, or_self, and_self, decide_true, decide_false, Bool.false_eq_true])]
      by_cases c3 : v ≤ 9
      · rw [if_neg (by simp (disch := omega) only [↓reduceIte, add_i0, cast_add1, cast_sub1, toNat120, i32_lit, i32_neg, i32_add, i32_sub, i32_mul, i32_nat, i32_le, i32_lt, i32_eq, inB_i, Int.toNat_natCast, mI_sI_eq, mI_sI_ne, mR_sR_eq, mR_sR_ne, mI_sR, mR_sI, mK_sI, mN_sI, mn_sI, mJ_sI, mK_sR, mN_sR, mn_sR, mJ_sR, mI_wI, mR_wI, mK_wI, mN_wI, mn_wI, mJ_wI, ↓bnd_of, ↓bndX_r, ↓bndX_l, ↓ap_nr, bnd_of, bndX_r, bndX_l, if_true, if_false, ite_true, ite_false, not_true_eq_false, not_false_eq_true, Nat.reduceAdd, Nat.reduceMul, Nat.reduceEqDiff, Int.reduceToNat, Int.reduceNeg, Ilt_t, Ilt_f, Ile_t, Ile_f, Ieq_t, Ieq_f, Nlt_t, Nlt_f, Nle_t, Nle_f, Neq_t, Neq_f, or_true, true_or, or_false, false_or, and_true, true_and, and_false, false_and, ne_eq, or_self, and_self, decide_true, decide_false, Bool.false_eq_true]), if_pos (by rw [show v = old from Decidable.byContradiction (fun q => c ⟨c2, c3, q⟩)]), ref]
      · rw [if_pos (by simp (disch := omega) only [↓reduceIte, add_i0, cast_add1, cast_sub1, toNat120, i32_lit, i32_neg, i32_add, i32_sub, i32_mul, i32_nat, i32_le, i32_lt, i32_eq, inB_i, Int.toNat_natCast, mI_sI_eq, mI_sI_ne, mR_sR_eq, mR_sR_ne, mI_sR, mR_sI, mK_sI, mN_sI, mn_sI, mJ_sI, mK_sR, mN_sR, mn_sR, mJ_sR, mI_wI, mR_wI, mK_wI, mN_wI, mn_wI, mJ_wI, ↓bnd_of, ↓bndX_r, ↓bndX_l, ↓ap_nr, bnd_of, bndX_r, bndX_l, if_true, if_false, ite_true, ite_false, not_true_eq_false, not_false_eq_true, Nat.reduceAdd, Nat.reduceMul, Nat.reduceEqDiff, Int.reduceToNat, Int.reduceNeg, Ilt_t, Ilt_f, Ile_t, Ile_f, Ieq_t, Ieq_f, Nlt_t, Nlt_f, Nle_t, Nle_f, Neq_t, Neq_f, or_true, true_or, or_false, false_or, and_true, true_and, and_false, false_and, ne_eq, or_self, and_self, decide_true, decide_false, Bool.false_eq_true]), ref]
    · rw [if_pos (by simp (disch := omega) only [↓reduceIte, add_i0, cast_add1, cast_sub1, toNat120, i32_lit, i32_neg, i32_add, i32_sub, i32_mul, i32_nat, i32_le, i32_lt, i32_eq, inB_i, Int.toNat_natCast, mI_sI_eq, mI_sI_ne, mR_sR_eq, mR_sR_ne, mI_sR, mR_sI, mK_sI, mN_sI, mn_sI, mJ_sI, mK_sR, mN_sR, mn_sR, mJ_sR, mI_wI, mR_wI, mK_wI, mN_wI, mn_wI, mJ_wI, ↓bnd_of, ↓bndX_r, ↓bndX_l, ↓ap_nr, bnd_of, bndX_r, bndX_l, if_true, if_false, ite_true, ite_false, not_true_eq_false, not_false_eq_true, Nat.reduceAdd, Nat.reduceMul, Nat.reduceEqDiff, Int.reduceToNat, Int.reduceNeg, Ilt_t, Ilt_f, Ile_t, Ile_f, Ieq_t, Ieq_f, Nlt_t, Nlt_f, Nle_t, Nle_f, Neq_t, Neq_f, or_true, true_or, or_false, false_or, and_true, true_and, and_false, false_and, ne_eq, or_self, and_self, decide_true, decide_false, Bool.false_eq_true]), ref]
theorem c_damage (h : RO M s S A) (hm2 : mn M + 1 < 900000) (hac : ActsC M 18 20 S.nl n Bs) (hBs : Bs n = A) (l j w v : Int) (z1 : -2147483648 ≤ l) (z2 : l ≤ 2147483647) (z3 : -2147483648 ≤ j) (z4 : j ≤ 2147483647) (z5 : -2147483648 ≤ w) (z6 : w ≤ 2147483647) (z7 : -2147483648 ≤ v) (z8 : v ≤ 2147483647) : ∃ M', f_X11_damage 1 (i32 l) (i32 j) (i32 w) (i32 v) M = some (a_damage S A l j w v, M') ∧ (if okE S A l j ∧ 0 ≤ w ∧ w ≤ 1 then (if dmE v (dmO A w l.toNat j.toNat) then CDone M M' S n Bs (dmN A w l.toNat j.toNat v) else CRef M M') else M' = M) := by
  obtain ⟨hW, hV, -, h8⟩ := h
  have hn := X11_needEntry hV h8 hW.1 l j z1 z2 z3 z4
  have b := hW.1.2.1
  obtain ⟨hL, hc, hs, hC, hA, hr, h88, h112, hm⟩ := hV
  have k1 : mK M 1 = 12 := by simp only [hL.o]
  have r6 : mR M 1 6 = 18 := by simp only [hL.o]
  have ht := hL.tel
  unfold a_damage
  by_cases d : okE S A l j
  · rw [if_pos (by exact d)] at hn
    by_cases dw : 0 ≤ w ∧ w ≤ 1
    · simp only [if_pos (show okE S A l j ∧ 0 ≤ w ∧ w ≤ 1 from ⟨d, dw⟩)]
      unfold okE at d
      obtain ⟨l, rfl⟩ : ∃ k : Nat, l = k := ⟨l.toNat, by omega⟩
      obtain ⟨j, rfl⟩ : ∃ k : Nat, j = k := ⟨j.toNat, by omega⟩
      simp only [Int.toNat_natCast] at d ⊢
      have hl8 : l < 8 := by omega
      have hj : j < A.sz l := by omega
      have hz := hA.1.2.2.2.1 l
      have hj120 : j < 120 := by omega
      have bv := St.b hA.1 l j
      have hca := hc.at21 hl8
      have nl := nat_i (k := l) (by omega)
      have in8 : inB (i32 (l : Int)) 8 = true := by clear hca; simp (disch := omega) only [↓reduceIte, add_i0, cast_add1, cast_sub1, toNat120, i32_lit, i32_neg, i32_add, i32_sub, i32_mul, i32_nat, i32_le, i32_lt, i32_eq, inB_i, Int.toNat_natCast, mI_sI_eq, mI_sI_ne, mR_sR_eq, mR_sR_ne, mI_sR, mR_sI, mK_sI, mN_sI, mn_sI, mJ_sI, mK_sR, mN_sR, mn_sR, mJ_sR, mI_wI, mR_wI, mK_wI, mN_wI, mn_wI, mJ_wI, ↓bnd_of, ↓bndX_r, ↓bndX_l, ↓ap_nr, bnd_of, bndX_r, bndX_l, if_true, if_false, ite_true, ite_false, not_true_eq_false, not_false_eq_true, Nat.reduceAdd, Nat.reduceMul, Nat.reduceEqDiff, Int.reduceToNat, Int.reduceNeg, Ilt_t, Ilt_f, Ile_t, Ile_f, Ieq_t, Ieq_f, Nlt_t, Nlt_f, Nle_t, Nle_f, Neq_t, Neq_f, or_true, true_or, or_false, false_or, and_true, true_and, and_false, false_and, ne_eq, or_self, and_self, decide_true, decide_false, Bool.false_eq_true]
      by_cases w0 : w = 0
      · subst w0
        rw [show dmO A 0 l j = A.rp l j from rfl, show dmN A 0 l j v = A.wRp l j v from rfl]
        obtain ⟨M', e1, q1⟩ := X11_damage53 (S := S) (Bs := Bs) hL hm hm2 hac hA hl8 hj120 (ro := 21 + 4 * l + 1) (Or.inl rfl) hca.o.2.2.2.2.1 hca.o.2.2.2.2.2.2.2.1 (hA.2.2.1 l j hl8 hj) bv.1 bv.2.1 (kd := 3) (A' := A.wRp l j v) (fun M1 w1 w2 w3 w4 w5 w6 => ⟨w2, by omega, by omega, by rw [hBs]; exact hA.1, Or.inr (Or.inr (Or.inr (Or.inl ⟨w3, l, j, A.rp l j, by omega, hj, w4, w5, w6, by rw [hBs]; exact wRp_back A l j v⟩)))⟩) 0 (Or.inl ⟨rfl, rfl⟩) v z7 z8 (fun M2 q1 q2 q3 => CC.wRp q1 hl8 q2 q3)
        refine ⟨M', ?_, q1⟩
        rw [← e1]
        unfold f_X11_damage
        rw [if_pos k1, bxX hn, if_pos (by rfl)]
        unfold f_X11_damage_25
        rw [if_pos k1, r6, if_pos ht.o.2.2.2.2.1, ht.o.2.2.2.2.2.1, if_pos ht.o.2.2.2.2.2.2.1, ht.o.2.2.2.2.2.2.2, if_pos in8, if_pos (by rfl), nl, hca.o.2.2.2.2.2.2.2.2.2.2, if_pos hca.o.1, hca.o.2.1]
      · have w1 : w = 1 := by omega
        subst w1
        rw [show dmO A 1 l j = A.df l j from rfl, show dmN A 1 l j v = A.wDf l j v from rfl]
        obtain ⟨M', e1, q1⟩ := X11_damage53 (S := S) (Bs := Bs) hL hm hm2 hac hA hl8 hj120 (ro := 21 + 4 * l + 2) (Or.inr rfl) hca.o.2.2.2.2.2.1 hca.o.2.2.2.2.2.2.2.2.1 (hA.2.2.2.1 l j hl8 hj) bv.2.2.1 bv.2.2.2.1 (kd := 4) (A' := A.wDf l j v) (fun M1 w1 w2 w3 w4 w5 w6 => ⟨w2, by omega, by omega, by rw [hBs]; exact hA.1, Or.inr (Or.inr (Or.inr (Or.inr ⟨w3, l, j, A.df l j, by omega, hj, w4, w5, w6, by rw [hBs]; exact wDf_back A l j v⟩)))⟩) 1 (Or.inr ⟨by decide, rfl⟩) v z7 z8 (fun M2 q1 q2 q3 => CC.wDf q1 hl8 q2 q3)
        refine ⟨M', ?_, q1⟩
        rw [← e1]
        unfold f_X11_damage
        rw [if_pos k1, bxX hn, if_neg (by decide), if_pos (by rfl)]
        unfold f_X11_damage_25
        rw [if_pos k1, r6, if_pos ht.o.2.2.2.2.1, ht.o.2.2.2.2.2.1, if_pos ht.o.2.2.2.2.2.2.1, ht.o.2.2.2.2.2.2.2, if_pos in8, if_neg (by decide), nl, hca.o.2.2.2.2.2.2.2.2.2.2, if_pos hca.o.1, hca.o.2.2.1]
    · simp only [if_neg (show ¬ (okE S A l j ∧ 0 ≤ w ∧ w ≤ 1) from fun q => dw q.2)]
      refine ⟨M, ?_, rfl⟩
      have n0 : ¬ (i32 w = i32 0) := i32_ne (by omega) (by omega) (by omega) (by omega) (by omega)
      have n1 : ¬ (i32 w = i32 1) := i32_ne (by omega) (by omega) (by omega) (by omega) (by omega)
      unfold f_X11_damage
      rw [if_pos k1, bxX hn, if_neg (by exact n0), if_neg (by exact n1)]
  · rw [if_neg (by exact d)] at hn
    simp only [if_neg (show ¬ (okE S A l j ∧ 0 ≤ w ∧ w ≤ 1) from fun q => d q.1)]
    refine ⟨M, ?_, rfl⟩
    unfold f_X11_damage
    rw [if_pos k1, bxL hn]
end
